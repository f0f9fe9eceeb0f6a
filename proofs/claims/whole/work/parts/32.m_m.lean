/-! CoinLoopsModel.holds(IIII)Z -/
theorem dX11_holds_0 : decode cX11_holds 0 = .ok (.iconst 1, 1) := by decide +kernel
theorem dX11_holds_1 : decode cX11_holds 1 = .ok (.istore 5, 2) := by decide +kernel
theorem dX11_holds_3 : decode cX11_holds 3 = .ok (.iload_n 1, 1) := by decide +kernel
theorem dX11_holds_4 : decode cX11_holds 4 = .ok (.istore 6, 2) := by decide +kernel
theorem dX11_holds_6 : decode cX11_holds 6 = .ok (.iload 6, 2) := by decide +kernel
theorem dX11_holds_8 : decode cX11_holds 8 = .ok (.iload_n 2, 1) := by decide +kernel
theorem dX11_holds_9 : decode cX11_holds 9 = .ok (.if_icmp .ge 53, 3) := by decide +kernel
theorem dX11_holds_12 : decode cX11_holds 12 = .ok (.iload 5, 2) := by decide +kernel
theorem dX11_holds_14 : decode cX11_holds 14 = .ok (.ifCond .eq 19, 3) := by decide +kernel
theorem dX11_holds_17 : decode cX11_holds 17 = .ok (.aload_n 0, 1) := by decide +kernel
theorem dX11_holds_18 : decode cX11_holds 18 = .ok (.iload 6, 2) := by decide +kernel
theorem dX11_holds_20 : decode cX11_holds 20 = .ok (.iload_n 3, 1) := by decide +kernel
theorem dX11_holds_21 : decode cX11_holds 21 = .ok (.iload 4, 2) := by decide +kernel
theorem dX11_holds_23 : decode cX11_holds 23 = .ok (.invokevirtual 267, 3) := by decide +kernel
theorem dX11_holds_26 : decode cX11_holds 26 = .ok (.ifCond .eq 7, 3) := by decide +kernel
theorem dX11_holds_29 : decode cX11_holds 29 = .ok (.iconst 1, 1) := by decide +kernel
theorem dX11_holds_30 : decode cX11_holds 30 = .ok (.goto 4, 3) := by decide +kernel
theorem dX11_holds_33 : decode cX11_holds 33 = .ok (.iconst 0, 1) := by decide +kernel
theorem dX11_holds_34 : decode cX11_holds 34 = .ok (.istore 5, 2) := by decide +kernel
theorem dX11_holds_36 : decode cX11_holds 36 = .ok (.aload_n 0, 1) := by decide +kernel
theorem dX11_holds_37 : decode cX11_holds 37 = .ok (.getfield 31, 3) := by decide +kernel
theorem dX11_holds_40 : decode cX11_holds 40 = .ok (.iload 6, 2) := by decide +kernel
theorem dX11_holds_42 : decode cX11_holds 42 = .ok (.baload, 1) := by decide +kernel
theorem dX11_holds_43 : decode cX11_holds 43 = .ok (.ifCond .eq 13, 3) := by decide +kernel
theorem dX11_holds_46 : decode cX11_holds 46 = .ok (.iload 5, 2) := by decide +kernel
theorem dX11_holds_48 : decode cX11_holds 48 = .ok (.ifCond .eq 5, 3) := by decide +kernel
theorem dX11_holds_51 : decode cX11_holds 51 = .ok (.iconst 1, 1) := by decide +kernel
theorem dX11_holds_52 : decode cX11_holds 52 = .ok (.ireturn, 1) := by decide +kernel
theorem dX11_holds_53 : decode cX11_holds 53 = .ok (.iconst 1, 1) := by decide +kernel
theorem dX11_holds_54 : decode cX11_holds 54 = .ok (.istore 5, 2) := by decide +kernel
theorem dX11_holds_56 : decode cX11_holds 56 = .ok (.iinc 6 1, 3) := by decide +kernel
theorem dX11_holds_59 : decode cX11_holds 59 = .ok (.goto (-53), 3) := by decide +kernel
theorem dX11_holds_62 : decode cX11_holds 62 = .ok (.iconst 0, 1) := by decide +kernel
theorem dX11_holds_63 : decode cX11_holds 63 = .ok (.ireturn, 1) := by decide +kernel
def mM_holds_34 (k6 : Int32 → Int32 → Int32 → Int32 → Int32 → hI → Option (Int32)) (v2 : Int32) (v3 : Int32) (v4 : Int32) (v6 : Int32) (vs0 : Int32) (I : hI) : Option (Int32) :=
  h_g (h_in v6 1000) <|
  if (I 8 v6.toNatClampNeg) = 0 then
    k6 v2 v3 v4 vs0 (v6 + (1 : Int32)) I
  else
    (if vs0 = 0 then
      k6 v2 v3 v4 (1 : Int32) (v6 + (1 : Int32)) I
    else
      some (1 : Int32))
set_option maxHeartbeats 4000000 in
theorem sM_holds_34 (d : Nat) (hd : 1 + 1 ≤ d) (k6 : Int32 → Int32 → Int32 → Int32 → Int32 → hI → Option (Int32)) (hk6 : ∀ (v2 : Int32) (v3 : Int32) (v4 : Int32) (v5 : Int32) (v6 : Int32) (I : hI) (J : hJ) (q : Int32), k6 v2 v3 v4 v5 v6 I = some q → AW hFT cX11_holds 7 (some .boolean) RX11 kdM d [(0, .ref 0), (2, .int v2), (3, .int v3), (4, .int v4), (5, .int v5), (6, .int v6)] 6 [] (I, J, RMm) (some (.int q)) (I, J, RMm)) (v2 : Int32) (v3 : Int32) (v4 : Int32) (v6 : Int32) (vs0 : Int32) (I : hI) (J : hJ) (q : Int32) (h : mM_holds_34 k6 v2 v3 v4 v6 vs0 I = some q) : AW hFT cX11_holds 7 (some .boolean) RX11 kdM d [(0, .ref 0), (2, .int v2), (3, .int v3), (4, .int v4), (6, .int v6)] 34 [.int vs0] (I, J, RMm) (some (.int q)) (I, J, RMm) := by
  obtain ⟨d0, rfl, hd0⟩ := h_mono hd
  unfold mM_holds_34 at h
  refine a_istore (lv' := [(5, .int vs0), (0, .ref 0), (2, .int v2), (3, .int v3), (4, .int v4), (6, .int v6)]) dX11_holds_34 (by decide) rfl ?_
  refine a_aload_n dX11_holds_36 rfl rfl ?_
  refine b_getR hK_11 km_0 (i := 15) rfl fl_11_31 rfl rmm_15 dX11_holds_37 ?_
  refine a_iload dX11_holds_40 rfl ?_
  obtain ⟨g1, h⟩ := h_gS h
  refine b_zaload km_8 (h_inV g1) dX11_holds_42 ?_
  refine a_if_eq (tgt := 56) dX11_holds_43 (by decide) (fun c => ?_) (fun c => ?_)
  · replace h := h_iteT c h
    refine b_iinc (lv' := [(6, .int (v6 + (1 : Int32))), (5, .int vs0), (0, .ref 0), (2, .int v2), (3, .int v3), (4, .int v4)]) dX11_holds_56 rfl ic_1 (by decide) rfl ?_
    refine a_goto (tgt := 6) dX11_holds_59 (by decide) ?_
    refine a_sub (lv' := [(0, .ref 0), (2, .int v2), (3, .int v3), (4, .int v4), (5, .int vs0), (6, .int (v6 + (1 : Int32)))]) [2, 3, 4, 5, 1, 0] rfl ?_
    exact hk6 v2 v3 v4 vs0 (v6 + (1 : Int32)) I J _ h
  · replace h := h_iteF c h
    refine a_iload dX11_holds_46 rfl ?_
    refine a_if_eq (tgt := 53) dX11_holds_48 (by decide) (fun c => ?_) (fun c => ?_)
    · replace h := h_iteT c h
      refine a_iconst dX11_holds_53 ic_1 ?_
      refine a_istore (lv' := [(5, .int (1 : Int32)), (0, .ref 0), (2, .int v2), (3, .int v3), (4, .int v4), (6, .int v6)]) dX11_holds_54 (by decide) rfl ?_
      refine b_iinc (lv' := [(6, .int (v6 + (1 : Int32))), (5, .int (1 : Int32)), (0, .ref 0), (2, .int v2), (3, .int v3), (4, .int v4)]) dX11_holds_56 rfl ic_1 (by decide) rfl ?_
      refine a_goto (tgt := 6) dX11_holds_59 (by decide) ?_
      refine a_sub (lv' := [(0, .ref 0), (2, .int v2), (3, .int v3), (4, .int v4), (5, .int (1 : Int32)), (6, .int (v6 + (1 : Int32)))]) [2, 3, 4, 5, 1, 0] rfl ?_
      exact hk6 v2 v3 v4 (1 : Int32) (v6 + (1 : Int32)) I J _ h
    · replace h := h_iteF c h
      refine a_iconst dX11_holds_51 ic_1 ?_
      cases h
      exact a_zret (h_Z1.1) dX11_holds_52
def mM_holds_33 (k6 : Int32 → Int32 → Int32 → Int32 → Int32 → hI → Option (Int32)) (v2 : Int32) (v3 : Int32) (v4 : Int32) (v6 : Int32) (I : hI) : Option (Int32) :=
  mM_holds_34 k6 v2 v3 v4 v6 (0 : Int32) I
set_option maxHeartbeats 4000000 in
theorem sM_holds_33 (d : Nat) (hd : 1 + 1 ≤ d) (k6 : Int32 → Int32 → Int32 → Int32 → Int32 → hI → Option (Int32)) (hk6 : ∀ (v2 : Int32) (v3 : Int32) (v4 : Int32) (v5 : Int32) (v6 : Int32) (I : hI) (J : hJ) (q : Int32), k6 v2 v3 v4 v5 v6 I = some q → AW hFT cX11_holds 7 (some .boolean) RX11 kdM d [(0, .ref 0), (2, .int v2), (3, .int v3), (4, .int v4), (5, .int v5), (6, .int v6)] 6 [] (I, J, RMm) (some (.int q)) (I, J, RMm)) (v2 : Int32) (v3 : Int32) (v4 : Int32) (v6 : Int32) (I : hI) (J : hJ) (q : Int32) (h : mM_holds_33 k6 v2 v3 v4 v6 I = some q) : AW hFT cX11_holds 7 (some .boolean) RX11 kdM d [(0, .ref 0), (2, .int v2), (3, .int v3), (4, .int v4), (6, .int v6)] 33 [] (I, J, RMm) (some (.int q)) (I, J, RMm) := by
  obtain ⟨d0, rfl, hd0⟩ := h_mono hd
  unfold mM_holds_33 at h
  refine a_iconst dX11_holds_33 ic_0 ?_
  exact sM_holds_34 (d0 + 1) (by omega) k6 hk6 v2 v3 v4 v6 (0 : Int32) I J _ h
def mM_holds_B6 (k6 : Int32 → Int32 → Int32 → Int32 → Int32 → hI → Option (Int32)) (v2 : Int32) (v3 : Int32) (v4 : Int32) (v5 : Int32) (v6 : Int32) (I : hI) : Option (Int32) :=
  if v2 ≤ v6 then
    some (0 : Int32)
  else
    (if v5 = 0 then
      mM_holds_33 k6 v2 v3 v4 v6 I
    else
      ((mM_compareAt v6 v3 v4 I).bind fun q1 =>
      if q1 = 0 then
        mM_holds_33 k6 v2 v3 v4 v6 I
      else
        mM_holds_34 k6 v2 v3 v4 v6 (1 : Int32) I))
set_option maxHeartbeats 4000000 in
theorem sM_holds_B6 (d : Nat) (hd : 1 + 1 ≤ d) (k6 : Int32 → Int32 → Int32 → Int32 → Int32 → hI → Option (Int32)) (hk6 : ∀ (v2 : Int32) (v3 : Int32) (v4 : Int32) (v5 : Int32) (v6 : Int32) (I : hI) (J : hJ) (q : Int32), k6 v2 v3 v4 v5 v6 I = some q → AW hFT cX11_holds 7 (some .boolean) RX11 kdM d [(0, .ref 0), (2, .int v2), (3, .int v3), (4, .int v4), (5, .int v5), (6, .int v6)] 6 [] (I, J, RMm) (some (.int q)) (I, J, RMm)) (v2 : Int32) (v3 : Int32) (v4 : Int32) (v5 : Int32) (v6 : Int32) (I : hI) (J : hJ) (q : Int32) (h : mM_holds_B6 k6 v2 v3 v4 v5 v6 I = some q) : AW hFT cX11_holds 7 (some .boolean) RX11 kdM d [(0, .ref 0), (2, .int v2), (3, .int v3), (4, .int v4), (5, .int v5), (6, .int v6)] 6 [] (I, J, RMm) (some (.int q)) (I, J, RMm) := by
  obtain ⟨d0, rfl, hd0⟩ := h_mono hd
  unfold mM_holds_B6 at h
  refine a_iload dX11_holds_6 rfl ?_
  refine a_iload_n dX11_holds_8 rfl rfl ?_
  refine a_icmp_ge (tgt := 62) dX11_holds_9 (by decide) (fun c => ?_) (fun c => ?_)
  · replace h := h_iteT c h
    refine a_iconst dX11_holds_62 ic_0 ?_
    cases h
    exact a_zret (h_Z0.1) dX11_holds_63
  · replace h := h_iteF c h
    refine a_iload dX11_holds_12 rfl ?_
    refine a_if_eq (tgt := 33) dX11_holds_14 (by decide) (fun c => ?_) (fun c => ?_)
    · replace h := h_iteT c h
      refine a_sub (lv' := [(0, .ref 0), (2, .int v2), (3, .int v3), (4, .int v4), (6, .int v6)]) [0, 1, 2, 3, 5] rfl ?_
      exact sM_holds_33 (d0 + 1) (by omega) k6 hk6 v2 v3 v4 v6 I J _ h
    · replace h := h_iteF c h
      refine a_aload_n dX11_holds_17 rfl rfl ?_
      refine a_iload dX11_holds_18 rfl ?_
      refine a_iload_n dX11_holds_20 rfl rfl ?_
      refine a_iload dX11_holds_21 rfl ?_
      obtain ⟨q1, cq1, h⟩ := h_bindS h
      refine a_callV1 [] yy_X11_compareAt ml_11_267 km_0 rfl (sM_compareAt _ (by omega) v6 v3 v4 I J q1 cq1) rfl rfl (Nat.le_of_ble_eq_true rfl) dX11_holds_23 ?_
      refine a_if_eq (tgt := 33) dX11_holds_26 (by decide) (fun c => ?_) (fun c => ?_)
      · replace h := h_iteT c h
        refine a_sub (lv' := [(0, .ref 0), (2, .int v2), (3, .int v3), (4, .int v4), (6, .int v6)]) [0, 1, 2, 3, 5] rfl ?_
        exact sM_holds_33 (d0 + 1) (by omega) k6 hk6 v2 v3 v4 v6 I J _ h
      · replace h := h_iteF c h
        refine a_iconst dX11_holds_29 ic_1 ?_
        refine a_goto (tgt := 34) dX11_holds_30 (by decide) ?_
        refine a_sub (lv' := [(0, .ref 0), (2, .int v2), (3, .int v3), (4, .int v4), (6, .int v6)]) [0, 1, 2, 3, 5] rfl ?_
        exact sM_holds_34 (d0 + 1) (by omega) k6 hk6 v2 v3 v4 v6 (1 : Int32) I J _ h
def mM_holds_L6  : Nat → Int32 → Int32 → Int32 → Int32 → Int32 → hI → Option (Int32)
  | 0 => fun _ _ _ _ _ _ => none
  | n + 1 => mM_holds_B6 (mM_holds_L6 n)
theorem sM_holds_L6 (d : Nat) (hd : 1 + 1 ≤ d) : ∀ (n : Nat) (v2 : Int32) (v3 : Int32) (v4 : Int32) (v5 : Int32) (v6 : Int32) (I : hI) (J : hJ) (q : Int32) (h : mM_holds_L6 n v2 v3 v4 v5 v6 I = some q), AW hFT cX11_holds 7 (some .boolean) RX11 kdM d [(0, .ref 0), (2, .int v2), (3, .int v3), (4, .int v4), (5, .int v5), (6, .int v6)] 6 [] (I, J, RMm) (some (.int q)) (I, J, RMm)
  | 0, _, _, _, _, _, _, _, q, h => by cases h
  | n + 1, v2, v3, v4, v5, v6, I, J, q, h => sM_holds_B6 d hd (mM_holds_L6 n) (sM_holds_L6 d hd n) v2 v3 v4 v5 v6 I J q h
def mM_holds  (v1 : Int32) (v2 : Int32) (v3 : Int32) (v4 : Int32) (I : hI) : Option (Int32) :=
  mM_holds_L6 hF v2 v3 v4 (1 : Int32) v1 I
set_option maxHeartbeats 4000000 in
theorem sM_holds (d : Nat) (hd : 1 + 1 ≤ d) (v1 : Int32) (v2 : Int32) (v3 : Int32) (v4 : Int32) (I : hI) (J : hJ) (q : Int32) (h : mM_holds v1 v2 v3 v4 I = some q) : HMet hFT yX11_holds cX11_holds 7 (some .boolean) kdM d [.ref 0, .int v1, .int v2, .int v3, .int v4] (I, J, RMm) (some (.int q)) (I, J, RMm) := by
  obtain ⟨d0, rfl, hd0⟩ := h_mono hd
  refine HMet.of (by decide) (Nat.le_of_ble_eq_true rfl) ?_
  show AW hFT cX11_holds 7 (some .boolean) RX11 kdM (d0 + 1) [(0, .ref 0), (1, .int v1), (2, .int v2), (3, .int v3), (4, .int v4)] 0 [] (I, J, RMm) (some (.int q)) (I, J, RMm)
  unfold mM_holds at h
  refine a_iconst dX11_holds_0 ic_1 ?_
  refine a_istore (lv' := [(5, .int (1 : Int32)), (0, .ref 0), (1, .int v1), (2, .int v2), (3, .int v3), (4, .int v4)]) dX11_holds_1 (by decide) rfl ?_
  refine a_iload_n dX11_holds_3 rfl rfl ?_
  refine a_istore (lv' := [(6, .int v1), (5, .int (1 : Int32)), (0, .ref 0), (1, .int v1), (2, .int v2), (3, .int v3), (4, .int v4)]) dX11_holds_4 (by decide) rfl ?_
  refine a_sub (lv' := [(0, .ref 0), (2, .int v2), (3, .int v3), (4, .int v4), (5, .int (1 : Int32)), (6, .int v1)]) [2, 4, 5, 6, 1, 0] rfl ?_
  exact sM_holds_L6 (d0 + 1) (by omega) hF v2 v3 v4 (1 : Int32) v1 I J _ h
/-! CoinLoopsModel.isStatement()Z -/
theorem dX11_isStatement_0 : decode cX11_isStatement 0 = .ok (.aload_n 0, 1) := by decide +kernel
theorem dX11_isStatement_1 : decode cX11_isStatement 1 = .ok (.ldc 231, 2) := by decide +kernel
theorem dX11_isStatement_3 : decode cX11_isStatement 3 = .ok (.invokevirtual 212, 3) := by decide +kernel
theorem dX11_isStatement_6 : decode cX11_isStatement 6 = .ok (.ifCond .ne 62, 3) := by decide +kernel
theorem dX11_isStatement_9 : decode cX11_isStatement 9 = .ok (.aload_n 0, 1) := by decide +kernel
theorem dX11_isStatement_10 : decode cX11_isStatement 10 = .ok (.ldc 236, 2) := by decide +kernel
theorem dX11_isStatement_12 : decode cX11_isStatement 12 = .ok (.invokevirtual 212, 3) := by decide +kernel
theorem dX11_isStatement_15 : decode cX11_isStatement 15 = .ok (.ifCond .ne 53, 3) := by decide +kernel
theorem dX11_isStatement_18 : decode cX11_isStatement 18 = .ok (.aload_n 0, 1) := by decide +kernel
theorem dX11_isStatement_19 : decode cX11_isStatement 19 = .ok (.ldc_w 271, 3) := by decide +kernel
theorem dX11_isStatement_22 : decode cX11_isStatement 22 = .ok (.invokevirtual 212, 3) := by decide +kernel
theorem dX11_isStatement_25 : decode cX11_isStatement 25 = .ok (.ifCond .ne 43, 3) := by decide +kernel
theorem dX11_isStatement_28 : decode cX11_isStatement 28 = .ok (.aload_n 0, 1) := by decide +kernel
theorem dX11_isStatement_29 : decode cX11_isStatement 29 = .ok (.ldc_w 273, 3) := by decide +kernel
theorem dX11_isStatement_32 : decode cX11_isStatement 32 = .ok (.invokevirtual 212, 3) := by decide +kernel
theorem dX11_isStatement_35 : decode cX11_isStatement 35 = .ok (.ifCond .ne 33, 3) := by decide +kernel
theorem dX11_isStatement_38 : decode cX11_isStatement 38 = .ok (.aload_n 0, 1) := by decide +kernel
theorem dX11_isStatement_39 : decode cX11_isStatement 39 = .ok (.ldc_w 275, 3) := by decide +kernel
theorem dX11_isStatement_42 : decode cX11_isStatement 42 = .ok (.invokevirtual 212, 3) := by decide +kernel
theorem dX11_isStatement_45 : decode cX11_isStatement 45 = .ok (.ifCond .ne 23, 3) := by decide +kernel
theorem dX11_isStatement_48 : decode cX11_isStatement 48 = .ok (.aload_n 0, 1) := by decide +kernel
theorem dX11_isStatement_49 : decode cX11_isStatement 49 = .ok (.ldc_w 277, 3) := by decide +kernel
theorem dX11_isStatement_52 : decode cX11_isStatement 52 = .ok (.invokevirtual 212, 3) := by decide +kernel
theorem dX11_isStatement_55 : decode cX11_isStatement 55 = .ok (.ifCond .ne 13, 3) := by decide +kernel
theorem dX11_isStatement_58 : decode cX11_isStatement 58 = .ok (.aload_n 0, 1) := by decide +kernel
theorem dX11_isStatement_59 : decode cX11_isStatement 59 = .ok (.ldc_w 279, 3) := by decide +kernel
theorem dX11_isStatement_62 : decode cX11_isStatement 62 = .ok (.invokevirtual 212, 3) := by decide +kernel
theorem dX11_isStatement_65 : decode cX11_isStatement 65 = .ok (.ifCond .eq 7, 3) := by decide +kernel
theorem dX11_isStatement_68 : decode cX11_isStatement 68 = .ok (.iconst 1, 1) := by decide +kernel
theorem dX11_isStatement_69 : decode cX11_isStatement 69 = .ok (.goto 4, 3) := by decide +kernel
theorem dX11_isStatement_72 : decode cX11_isStatement 72 = .ok (.iconst 0, 1) := by decide +kernel
theorem dX11_isStatement_73 : decode cX11_isStatement 73 = .ok (.ireturn, 1) := by decide +kernel
def mM_isStatement   (I : hI) : Option (Int32) :=
  (mM_isWord 0 I).bind fun q1 =>
  if q1 = 0 then
    ((mM_isWord 1 I).bind fun q2 =>
    if q2 = 0 then
      ((mM_isWord 3 I).bind fun q3 =>
      if q3 = 0 then
        ((mM_isWord 4 I).bind fun q4 =>
        if q4 = 0 then
          ((mM_isWord 5 I).bind fun q5 =>
          if q5 = 0 then
            ((mM_isWord 6 I).bind fun q6 =>
            if q6 = 0 then
              ((mM_isWord 7 I).bind fun q7 =>
              if q7 = 0 then
                some (0 : Int32)
              else
                some (1 : Int32))
            else
              some (1 : Int32))
          else
            some (1 : Int32))
        else
          some (1 : Int32))
      else
        some (1 : Int32))
    else
      some (1 : Int32))
  else
    some (1 : Int32)
set_option maxHeartbeats 4000000 in
theorem sM_isStatement (d : Nat) (hd : 7 + 1 ≤ d)  (I : hI) (J : hJ) (q : Int32) (h : mM_isStatement I = some q) : HMet hFT yX11_isStatement cX11_isStatement 1 (some .boolean) kdM d [.ref 0] (I, J, RMm) (some (.int q)) (I, J, RMm) := by
  obtain ⟨d0, rfl, hd0⟩ := h_mono hd
  refine HMet.of (by decide) (Nat.le_of_ble_eq_true rfl) ?_
  show AW hFT cX11_isStatement 1 (some .boolean) RX11 kdM (d0 + 1) [(0, .ref 0)] 0 [] (I, J, RMm) (some (.int q)) (I, J, RMm)
  unfold mM_isStatement at h
  refine a_aload_n dX11_isStatement_0 rfl rfl ?_
  refine a_ldcS (i := 0) lit_11_231 kdM_len dX11_isStatement_1 ?_
  obtain ⟨q1, cq1, h⟩ := h_bindS h
  refine a_callV1 [] yy_X11_isWord ml_11_212 km_0 rfl (sM_isWord _ (by omega) 0 (by decide) I J q1 cq1) rfl rfl (Nat.le_of_ble_eq_true rfl) dX11_isStatement_3 ?_
  refine a_if_ne (tgt := 68) dX11_isStatement_6 (by decide) (fun c => ?_) (fun c => ?_)
  · replace h := h_iteF c h
    refine a_iconst dX11_isStatement_68 ic_1 ?_
    refine a_goto (tgt := 73) dX11_isStatement_69 (by decide) ?_
    cases h
    exact a_zret (h_Z1.1) dX11_isStatement_73
  · replace h := h_iteT c h
    refine a_aload_n dX11_isStatement_9 rfl rfl ?_
    refine a_ldcS (i := 1) lit_11_236 kdM_len dX11_isStatement_10 ?_
    obtain ⟨q2, cq2, h⟩ := h_bindS h
    refine a_callV1 [] yy_X11_isWord ml_11_212 km_0 rfl (sM_isWord _ (by omega) 1 (by decide) I J q2 cq2) rfl rfl (Nat.le_of_ble_eq_true rfl) dX11_isStatement_12 ?_
    refine a_if_ne (tgt := 68) dX11_isStatement_15 (by decide) (fun c => ?_) (fun c => ?_)
    · replace h := h_iteF c h
      refine a_iconst dX11_isStatement_68 ic_1 ?_
      refine a_goto (tgt := 73) dX11_isStatement_69 (by decide) ?_
      cases h
      exact a_zret (h_Z1.1) dX11_isStatement_73
    · replace h := h_iteT c h
      refine a_aload_n dX11_isStatement_18 rfl rfl ?_
      refine a_ldc_wS (i := 3) lit_11_271 kdM_len dX11_isStatement_19 ?_
      obtain ⟨q3, cq3, h⟩ := h_bindS h
      refine a_callV1 [] yy_X11_isWord ml_11_212 km_0 rfl (sM_isWord _ (by omega) 3 (by decide) I J q3 cq3) rfl rfl (Nat.le_of_ble_eq_true rfl) dX11_isStatement_22 ?_
      refine a_if_ne (tgt := 68) dX11_isStatement_25 (by decide) (fun c => ?_) (fun c => ?_)
      · replace h := h_iteF c h
        refine a_iconst dX11_isStatement_68 ic_1 ?_
        refine a_goto (tgt := 73) dX11_isStatement_69 (by decide) ?_
        cases h
        exact a_zret (h_Z1.1) dX11_isStatement_73
      · replace h := h_iteT c h
        refine a_aload_n dX11_isStatement_28 rfl rfl ?_
        refine a_ldc_wS (i := 4) lit_11_273 kdM_len dX11_isStatement_29 ?_
        obtain ⟨q4, cq4, h⟩ := h_bindS h
        refine a_callV1 [] yy_X11_isWord ml_11_212 km_0 rfl (sM_isWord _ (by omega) 4 (by decide) I J q4 cq4) rfl rfl (Nat.le_of_ble_eq_true rfl) dX11_isStatement_32 ?_
        refine a_if_ne (tgt := 68) dX11_isStatement_35 (by decide) (fun c => ?_) (fun c => ?_)
        · replace h := h_iteF c h
          refine a_iconst dX11_isStatement_68 ic_1 ?_
          refine a_goto (tgt := 73) dX11_isStatement_69 (by decide) ?_
          cases h
          exact a_zret (h_Z1.1) dX11_isStatement_73
        · replace h := h_iteT c h
          refine a_aload_n dX11_isStatement_38 rfl rfl ?_
          refine a_ldc_wS (i := 5) lit_11_275 kdM_len dX11_isStatement_39 ?_
          obtain ⟨q5, cq5, h⟩ := h_bindS h
          refine a_callV1 [] yy_X11_isWord ml_11_212 km_0 rfl (sM_isWord _ (by omega) 5 (by decide) I J q5 cq5) rfl rfl (Nat.le_of_ble_eq_true rfl) dX11_isStatement_42 ?_
          refine a_if_ne (tgt := 68) dX11_isStatement_45 (by decide) (fun c => ?_) (fun c => ?_)
          · replace h := h_iteF c h
            refine a_iconst dX11_isStatement_68 ic_1 ?_
            refine a_goto (tgt := 73) dX11_isStatement_69 (by decide) ?_
            cases h
            exact a_zret (h_Z1.1) dX11_isStatement_73
          · replace h := h_iteT c h
            refine a_aload_n dX11_isStatement_48 rfl rfl ?_
            refine a_ldc_wS (i := 6) lit_11_277 kdM_len dX11_isStatement_49 ?_
            obtain ⟨q6, cq6, h⟩ := h_bindS h
            refine a_callV1 [] yy_X11_isWord ml_11_212 km_0 rfl (sM_isWord _ (by omega) 6 (by decide) I J q6 cq6) rfl rfl (Nat.le_of_ble_eq_true rfl) dX11_isStatement_52 ?_
            refine a_if_ne (tgt := 68) dX11_isStatement_55 (by decide) (fun c => ?_) (fun c => ?_)
            · replace h := h_iteF c h
              refine a_iconst dX11_isStatement_68 ic_1 ?_
              refine a_goto (tgt := 73) dX11_isStatement_69 (by decide) ?_
              cases h
              exact a_zret (h_Z1.1) dX11_isStatement_73
            · replace h := h_iteT c h
              refine a_aload_n dX11_isStatement_58 rfl rfl ?_
              refine a_ldc_wS (i := 7) lit_11_279 kdM_len dX11_isStatement_59 ?_
              obtain ⟨q7, cq7, h⟩ := h_bindS h
              refine a_callV1 [] yy_X11_isWord ml_11_212 km_0 rfl (sM_isWord _ (by omega) 7 (by decide) I J q7 cq7) rfl rfl (Nat.le_of_ble_eq_true rfl) dX11_isStatement_62 ?_
              refine a_if_eq (tgt := 72) dX11_isStatement_65 (by decide) (fun c => ?_) (fun c => ?_)
              · replace h := h_iteT c h
                refine a_iconst dX11_isStatement_72 ic_0 ?_
                cases h
                exact a_zret (h_Z0.1) dX11_isStatement_73
              · replace h := h_iteF c h
                refine a_iconst dX11_isStatement_68 ic_1 ?_
                refine a_goto (tgt := 73) dX11_isStatement_69 (by decide) ?_
                cases h
                exact a_zret (h_Z1.1) dX11_isStatement_73
/-! CoinLoopsModel.readWays(I)V -/
theorem dX11_readWays_0 : decode cX11_readWays 0 = .ok (.aload_n 0, 1) := by decide +kernel
theorem dX11_readWays_1 : decode cX11_readWays 1 = .ok (.ldc_w 273, 3) := by decide +kernel
theorem dX11_readWays_4 : decode cX11_readWays 4 = .ok (.invokevirtual 233, 3) := by decide +kernel
theorem dX11_readWays_7 : decode cX11_readWays 7 = .ok (.ifCond .eq 23, 3) := by decide +kernel
theorem dX11_readWays_10 : decode cX11_readWays 10 = .ok (.aload_n 0, 1) := by decide +kernel
theorem dX11_readWays_11 : decode cX11_readWays 11 = .ok (.getfield 35, 3) := by decide +kernel
theorem dX11_readWays_14 : decode cX11_readWays 14 = .ok (.iload_n 1, 1) := by decide +kernel
theorem dX11_readWays_15 : decode cX11_readWays 15 = .ok (.iconst 3, 1) := by decide +kernel
theorem dX11_readWays_16 : decode cX11_readWays 16 = .ok (.iastore, 1) := by decide +kernel
theorem dX11_readWays_17 : decode cX11_readWays 17 = .ok (.aload_n 0, 1) := by decide +kernel
theorem dX11_readWays_18 : decode cX11_readWays 18 = .ok (.dup, 1) := by decide +kernel
theorem dX11_readWays_19 : decode cX11_readWays 19 = .ok (.getfield 299, 3) := by decide +kernel
theorem dX11_readWays_22 : decode cX11_readWays 22 = .ok (.iconst 1, 1) := by decide +kernel
theorem dX11_readWays_23 : decode cX11_readWays 23 = .ok (.iadd, 1) := by decide +kernel
theorem dX11_readWays_24 : decode cX11_readWays 24 = .ok (.putfield 299, 3) := by decide +kernel
theorem dX11_readWays_27 : decode cX11_readWays 27 = .ok (.goto 79, 3) := by decide +kernel
theorem dX11_readWays_30 : decode cX11_readWays 30 = .ok (.aload_n 0, 1) := by decide +kernel
theorem dX11_readWays_31 : decode cX11_readWays 31 = .ok (.ldc_w 275, 3) := by decide +kernel
theorem dX11_readWays_34 : decode cX11_readWays 34 = .ok (.invokevirtual 233, 3) := by decide +kernel
theorem dX11_readWays_37 : decode cX11_readWays 37 = .ok (.ifCond .eq 33, 3) := by decide +kernel
theorem dX11_readWays_40 : decode cX11_readWays 40 = .ok (.aload_n 0, 1) := by decide +kernel
theorem dX11_readWays_41 : decode cX11_readWays 41 = .ok (.getfield 35, 3) := by decide +kernel
theorem dX11_readWays_44 : decode cX11_readWays 44 = .ok (.iload_n 1, 1) := by decide +kernel
theorem dX11_readWays_45 : decode cX11_readWays 45 = .ok (.iconst 4, 1) := by decide +kernel
theorem dX11_readWays_46 : decode cX11_readWays 46 = .ok (.iastore, 1) := by decide +kernel
theorem dX11_readWays_47 : decode cX11_readWays 47 = .ok (.aload_n 0, 1) := by decide +kernel
theorem dX11_readWays_48 : decode cX11_readWays 48 = .ok (.getfield 38, 3) := by decide +kernel
theorem dX11_readWays_51 : decode cX11_readWays 51 = .ok (.iload_n 1, 1) := by decide +kernel
theorem dX11_readWays_52 : decode cX11_readWays 52 = .ok (.aload_n 0, 1) := by decide +kernel
theorem dX11_readWays_53 : decode cX11_readWays 53 = .ok (.getfield 296, 3) := by decide +kernel
theorem dX11_readWays_56 : decode cX11_readWays 56 = .ok (.iastore, 1) := by decide +kernel
theorem dX11_readWays_57 : decode cX11_readWays 57 = .ok (.aload_n 0, 1) := by decide +kernel
theorem dX11_readWays_58 : decode cX11_readWays 58 = .ok (.dup, 1) := by decide +kernel
theorem dX11_readWays_59 : decode cX11_readWays 59 = .ok (.getfield 296, 3) := by decide +kernel
theorem dX11_readWays_62 : decode cX11_readWays 62 = .ok (.iconst 1, 1) := by decide +kernel
theorem dX11_readWays_63 : decode cX11_readWays 63 = .ok (.iadd, 1) := by decide +kernel
theorem dX11_readWays_64 : decode cX11_readWays 64 = .ok (.putfield 296, 3) := by decide +kernel
theorem dX11_readWays_67 : decode cX11_readWays 67 = .ok (.goto 39, 3) := by decide +kernel
theorem dX11_readWays_70 : decode cX11_readWays 70 = .ok (.aload_n 0, 1) := by decide +kernel
theorem dX11_readWays_71 : decode cX11_readWays 71 = .ok (.invokevirtual 216, 3) := by decide +kernel
theorem dX11_readWays_74 : decode cX11_readWays 74 = .ok (.aload_n 0, 1) := by decide +kernel
theorem dX11_readWays_75 : decode cX11_readWays 75 = .ok (.getfield 35, 3) := by decide +kernel
theorem dX11_readWays_78 : decode cX11_readWays 78 = .ok (.iload_n 1, 1) := by decide +kernel
theorem dX11_readWays_79 : decode cX11_readWays 79 = .ok (.iconst 5, 1) := by decide +kernel
theorem dX11_readWays_80 : decode cX11_readWays 80 = .ok (.iastore, 1) := by decide +kernel
theorem dX11_readWays_81 : decode cX11_readWays 81 = .ok (.aload_n 0, 1) := by decide +kernel
theorem dX11_readWays_82 : decode cX11_readWays 82 = .ok (.getfield 41, 3) := by decide +kernel
theorem dX11_readWays_85 : decode cX11_readWays 85 = .ok (.iload_n 1, 1) := by decide +kernel
theorem dX11_readWays_86 : decode cX11_readWays 86 = .ok (.aload_n 0, 1) := by decide +kernel
theorem dX11_readWays_87 : decode cX11_readWays 87 = .ok (.getfield 245, 3) := by decide +kernel
theorem dX11_readWays_90 : decode cX11_readWays 90 = .ok (.iastore, 1) := by decide +kernel
theorem dX11_readWays_91 : decode cX11_readWays 91 = .ok (.aload_n 0, 1) := by decide +kernel
theorem dX11_readWays_92 : decode cX11_readWays 92 = .ok (.iconst (-1), 1) := by decide +kernel
theorem dX11_readWays_93 : decode cX11_readWays 93 = .ok (.invokevirtual 305, 3) := by decide +kernel
theorem dX11_readWays_96 : decode cX11_readWays 96 = .ok (.aload_n 0, 1) := by decide +kernel
theorem dX11_readWays_97 : decode cX11_readWays 97 = .ok (.getfield 44, 3) := by decide +kernel
theorem dX11_readWays_100 : decode cX11_readWays 100 = .ok (.iload_n 1, 1) := by decide +kernel
theorem dX11_readWays_101 : decode cX11_readWays 101 = .ok (.aload_n 0, 1) := by decide +kernel
theorem dX11_readWays_102 : decode cX11_readWays 102 = .ok (.getfield 245, 3) := by decide +kernel
theorem dX11_readWays_105 : decode cX11_readWays 105 = .ok (.iastore, 1) := by decide +kernel
theorem dX11_readWays_106 : decode cX11_readWays 106 = .ok (.aload_n 0, 1) := by decide +kernel
theorem dX11_readWays_107 : decode cX11_readWays 107 = .ok (.getfield 299, 3) := by decide +kernel
theorem dX11_readWays_110 : decode cX11_readWays 110 = .ok (.istore_n 2, 1) := by decide +kernel
theorem dX11_readWays_111 : decode cX11_readWays 111 = .ok (.aload_n 0, 1) := by decide +kernel
theorem dX11_readWays_112 : decode cX11_readWays 112 = .ok (.getfield 47, 3) := by decide +kernel
theorem dX11_readWays_115 : decode cX11_readWays 115 = .ok (.iload_n 1, 1) := by decide +kernel
theorem dX11_readWays_116 : decode cX11_readWays 116 = .ok (.aload_n 0, 1) := by decide +kernel
theorem dX11_readWays_117 : decode cX11_readWays 117 = .ok (.invokevirtual 308, 3) := by decide +kernel
theorem dX11_readWays_120 : decode cX11_readWays 120 = .ok (.iastore, 1) := by decide +kernel
theorem dX11_readWays_121 : decode cX11_readWays 121 = .ok (.aload_n 0, 1) := by decide +kernel
theorem dX11_readWays_122 : decode cX11_readWays 122 = .ok (.getfield 299, 3) := by decide +kernel
theorem dX11_readWays_125 : decode cX11_readWays 125 = .ok (.istore_n 3, 1) := by decide +kernel
theorem dX11_readWays_126 : decode cX11_readWays 126 = .ok (.aload_n 0, 1) := by decide +kernel
theorem dX11_readWays_127 : decode cX11_readWays 127 = .ok (.iload_n 2, 1) := by decide +kernel
theorem dX11_readWays_128 : decode cX11_readWays 128 = .ok (.putfield 299, 3) := by decide +kernel
theorem dX11_readWays_131 : decode cX11_readWays 131 = .ok (.aload_n 0, 1) := by decide +kernel
theorem dX11_readWays_132 : decode cX11_readWays 132 = .ok (.getfield 50, 3) := by decide +kernel
theorem dX11_readWays_135 : decode cX11_readWays 135 = .ok (.iload_n 1, 1) := by decide +kernel
theorem dX11_readWays_136 : decode cX11_readWays 136 = .ok (.aload_n 0, 1) := by decide +kernel
theorem dX11_readWays_137 : decode cX11_readWays 137 = .ok (.getfield 200, 3) := by decide +kernel
theorem dX11_readWays_140 : decode cX11_readWays 140 = .ok (.iconst (-1), 1) := by decide +kernel
theorem dX11_readWays_141 : decode cX11_readWays 141 = .ok (.if_icmp .ne 10, 3) := by decide +kernel
theorem dX11_readWays_144 : decode cX11_readWays 144 = .ok (.aload_n 0, 1) := by decide +kernel
theorem dX11_readWays_145 : decode cX11_readWays 145 = .ok (.invokevirtual 308, 3) := by decide +kernel
theorem dX11_readWays_148 : decode cX11_readWays 148 = .ok (.goto 4, 3) := by decide +kernel
theorem dX11_readWays_151 : decode cX11_readWays 151 = .ok (.iconst (-1), 1) := by decide +kernel
theorem dX11_readWays_152 : decode cX11_readWays 152 = .ok (.iastore, 1) := by decide +kernel
theorem dX11_readWays_153 : decode cX11_readWays 153 = .ok (.aload_n 0, 1) := by decide +kernel
theorem dX11_readWays_154 : decode cX11_readWays 154 = .ok (.aload_n 0, 1) := by decide +kernel
theorem dX11_readWays_155 : decode cX11_readWays 155 = .ok (.getfield 299, 3) := by decide +kernel
theorem dX11_readWays_158 : decode cX11_readWays 158 = .ok (.iload_n 3, 1) := by decide +kernel
theorem dX11_readWays_159 : decode cX11_readWays 159 = .ok (.invokestatic 311, 3) := by decide +kernel
theorem dX11_readWays_162 : decode cX11_readWays 162 = .ok (.putfield 299, 3) := by decide +kernel
theorem dX11_readWays_165 : decode cX11_readWays 165 = .ok (.return_, 1) := by decide +kernel
def mM_readWays_152 (rec : hI → Option (Int32 × hI))  (v3 : Int32) (vs1 : Int32) (vs2 : Int32) (I : hI) : Option (hI) :=
  h_g (h_in vs1 48) <|
  h_let (h_u I 14 vs1.toNatClampNeg vs2) fun I2 =>
  h_let (h_u I2 0 31 (if (I2 0 31) < v3 then v3 else (I2 0 31))) fun I3 =>
  some I3
set_option maxHeartbeats 4000000 in
theorem sM_readWays_152 (rec : hI → Option (Int32 × hI)) (Dr : Nat) (hrec : ∀ d, Dr ≤ d → ∀  (I : hI) (J : hJ) (q : Int32 × hI), rec I = some q → HMet hFT yX11_readBody cX11_readBody 4 (some .int) kdM d [.ref 0] (I, J, RMm) (some (.int q.1)) (q.2, J, RMm)) (d : Nat) (hd : (Dr + 12) + 1 ≤ d) (v3 : Int32) (vs1 : Int32) (vs2 : Int32) (I : hI) (J : hJ) (q : hI) (h : mM_readWays_152 rec v3 vs1 vs2 I = some q) : AW hFT cX11_readWays 4 none RX11 kdM d [(0, .ref 0), (3, .int v3)] 152 [.int vs2, .int vs1, .ref 14] (I, J, RMm) none (q, J, RMm) := by
  obtain ⟨d0, rfl, hd0⟩ := h_mono hd
  unfold mM_readWays_152 at h
  obtain ⟨g1, h⟩ := h_gS h
  refine b_iastore km_14 (h_inV g1) dX11_readWays_152 ?_
  obtain ⟨I2, eI2, h⟩ := h_letS h
  refine a_memI eI2 ?_
  refine a_aload_n dX11_readWays_153 rfl rfl ?_
  refine a_aload_n dX11_readWays_154 rfl rfl ?_
  refine b_getI hK_11 km_0 (i := 31) rfl fl_11_299 rfl dX11_readWays_155 ?_
  refine a_iload_n dX11_readWays_158 rfl rfl ?_
  refine a_mmax w_mmax ml_11_311 (Nat.le_of_ble_eq_true rfl) dX11_readWays_159 ?_
  refine b_putI hK_11 km_0 (i := 31) rfl fl_11_299 rfl rfl (h_NI _) dX11_readWays_162 ?_
  obtain ⟨I3, eI3, h⟩ := h_letS h
  refine a_memI eI3 ?_
  cases h
  exact a_vret dX11_readWays_165
def mM_readWays_106 (rec : hI → Option (Int32 × hI))  (v1 : Int32) (I : hI) : Option (hI) :=
  h_let (I 0 31) fun v2x0 =>
  (rec I).bind fun q2 =>
  h_g (h_in v1 48) <|
  h_let (h_u q2.2 13 v1.toNatClampNeg q2.1) fun I4 =>
  h_let (I4 0 31) fun v3x4 =>
  h_let (h_u I4 0 31 v2x0) fun I6 =>
  if (I6 0 5) = (-1 : Int32) then
    ((rec I6).bind fun q7 =>
    mM_readWays_152 rec v3x4 v1 q7.1 q7.2)
  else
    mM_readWays_152 rec v3x4 v1 (-1 : Int32) I6
set_option maxHeartbeats 4000000 in
theorem sM_readWays_106 (rec : hI → Option (Int32 × hI)) (Dr : Nat) (hrec : ∀ d, Dr ≤ d → ∀  (I : hI) (J : hJ) (q : Int32 × hI), rec I = some q → HMet hFT yX11_readBody cX11_readBody 4 (some .int) kdM d [.ref 0] (I, J, RMm) (some (.int q.1)) (q.2, J, RMm)) (d : Nat) (hd : (Dr + 12) + 1 ≤ d) (v1 : Int32) (I : hI) (J : hJ) (q : hI) (h : mM_readWays_106 rec v1 I = some q) : AW hFT cX11_readWays 4 none RX11 kdM d [(0, .ref 0), (1, .int v1)] 106 [] (I, J, RMm) none (q, J, RMm) := by
  obtain ⟨d0, rfl, hd0⟩ := h_mono hd
  unfold mM_readWays_106 at h
  refine a_aload_n dX11_readWays_106 rfl rfl ?_
  refine b_getI hK_11 km_0 (i := 31) rfl fl_11_299 rfl dX11_readWays_107 ?_
  obtain ⟨v2x0, ev2x0, h⟩ := h_letS h
  refine a_topI ev2x0 ?_
  refine a_istore_n (lv' := [(2, .int v2x0), (0, .ref 0), (1, .int v1)]) dX11_readWays_110 rfl (by decide) rfl ?_
  refine a_aload_n dX11_readWays_111 rfl rfl ?_
  refine b_getR hK_11 km_0 (i := 21) rfl fl_11_47 rfl rmm_21 dX11_readWays_112 ?_
  refine a_iload_n dX11_readWays_115 rfl rfl ?_
  refine a_aload_n dX11_readWays_116 rfl rfl ?_
  obtain ⟨q2, cq2, h⟩ := h_bindS h
  refine a_callV1 [.int v1, .ref 13] yy_X11_readBody ml_11_308 km_0 rfl (hrec _ (by omega)  I J q2 cq2) rfl rfl (Nat.le_of_ble_eq_true rfl) dX11_readWays_117 ?_
  obtain ⟨g3, h⟩ := h_gS h
  refine b_iastore km_13 (h_inV g3) dX11_readWays_120 ?_
  obtain ⟨I4, eI4, h⟩ := h_letS h
  refine a_memI eI4 ?_
  refine a_aload_n dX11_readWays_121 rfl rfl ?_
  refine b_getI hK_11 km_0 (i := 31) rfl fl_11_299 rfl dX11_readWays_122 ?_
  obtain ⟨v3x4, ev3x4, h⟩ := h_letS h
  refine a_topI ev3x4 ?_
  refine a_istore_n (lv' := [(3, .int v3x4), (2, .int v2x0), (0, .ref 0), (1, .int v1)]) dX11_readWays_125 rfl (by decide) rfl ?_
  refine a_aload_n dX11_readWays_126 rfl rfl ?_
  refine a_iload_n dX11_readWays_127 rfl rfl ?_
  refine b_putI hK_11 km_0 (i := 31) rfl fl_11_299 rfl rfl (h_NI _) dX11_readWays_128 ?_
  obtain ⟨I6, eI6, h⟩ := h_letS h
  refine a_memI eI6 ?_
  refine a_aload_n dX11_readWays_131 rfl rfl ?_
  refine b_getR hK_11 km_0 (i := 22) rfl fl_11_50 rfl rmm_22 dX11_readWays_132 ?_
  refine a_iload_n dX11_readWays_135 rfl rfl ?_
  refine a_aload_n dX11_readWays_136 rfl rfl ?_
  refine b_getI hK_11 km_0 (i := 5) rfl fl_11_200 rfl dX11_readWays_137 ?_
  refine a_iconst dX11_readWays_140 ic_m1 ?_
  refine a_icmp_ne (tgt := 151) dX11_readWays_141 (by decide) (fun c => ?_) (fun c => ?_)
  · replace h := h_iteF c h
    refine a_iconst dX11_readWays_151 ic_m1 ?_
    refine a_sub (lv' := [(0, .ref 0), (3, .int v3x4)]) [2, 0] rfl ?_
    exact sM_readWays_152 rec Dr hrec (d0 + 1) (by omega) v3x4 v1 (-1 : Int32) I6 J _ h
  · replace h := h_iteT c h
    refine a_aload_n dX11_readWays_144 rfl rfl ?_
    obtain ⟨q7, cq7, h⟩ := h_bindS h
    refine a_callV1 [.int v1, .ref 14] yy_X11_readBody ml_11_308 km_0 rfl (hrec _ (by omega)  I6 J q7 cq7) rfl rfl (Nat.le_of_ble_eq_true rfl) dX11_readWays_145 ?_
    refine a_goto (tgt := 152) dX11_readWays_148 (by decide) ?_
    refine a_sub (lv' := [(0, .ref 0), (3, .int v3x4)]) [2, 0] rfl ?_
    exact sM_readWays_152 rec Dr hrec (d0 + 1) (by omega) v3x4 v1 q7.1 q7.2 J _ h
def mM_readWays (rec : hI → Option (Int32 × hI))  (v1 : Int32) (I : hI) : Option (hI) :=
  (mM_takesWord 4 I).bind fun q1 =>
  if q1.1 = 0 then
    ((mM_takesWord 5 q1.2).bind fun q2 =>
    if q2.1 = 0 then
      ((mM_next q2.2).bind fun q3 =>
      h_g (h_in v1 48) <|
      h_let (h_u q3 9 v1.toNatClampNeg (5 : Int32)) fun I5 =>
      h_g (h_in v1 48) <|
      h_let (h_u I5 11 v1.toNatClampNeg (I5 0 16)) fun I7 =>
      (mM_readCond (-1 : Int32) I7).bind fun q8 =>
      h_g (h_in v1 48) <|
      h_let (h_u q8 12 v1.toNatClampNeg (q8 0 16)) fun I10 =>
      mM_readWays_106 rec v1 I10)
    else
      (h_g (h_in v1 48) <|
      h_let (h_u q2.2 9 v1.toNatClampNeg (4 : Int32)) fun I4 =>
      h_g (h_in v1 48) <|
      h_let (h_u I4 10 v1.toNatClampNeg (I4 0 25)) fun I6 =>
      h_let (h_u I6 0 25 ((I6 0 25) + (1 : Int32))) fun I7 =>
      mM_readWays_106 rec v1 I7))
  else
    (h_g (h_in v1 48) <|
    h_let (h_u q1.2 9 v1.toNatClampNeg (3 : Int32)) fun I3 =>
    h_let (h_u I3 0 31 ((I3 0 31) + (1 : Int32))) fun I4 =>
    mM_readWays_106 rec v1 I4)
set_option maxHeartbeats 4000000 in
theorem sM_readWays (rec : hI → Option (Int32 × hI)) (Dr : Nat) (hrec : ∀ d, Dr ≤ d → ∀  (I : hI) (J : hJ) (q : Int32 × hI), rec I = some q → HMet hFT yX11_readBody cX11_readBody 4 (some .int) kdM d [.ref 0] (I, J, RMm) (some (.int q.1)) (q.2, J, RMm)) (d : Nat) (hd : (Dr + 12) + 1 ≤ d) (v1 : Int32) (I : hI) (J : hJ) (q : hI) (h : mM_readWays rec v1 I = some q) : HMet hFT yX11_readWays cX11_readWays 4 none kdM d [.ref 0, .int v1] (I, J, RMm) none (q, J, RMm) := by
  obtain ⟨d0, rfl, hd0⟩ := h_mono hd
  refine HMet.of (by decide) (Nat.le_of_ble_eq_true rfl) ?_
  show AW hFT cX11_readWays 4 none RX11 kdM (d0 + 1) [(0, .ref 0), (1, .int v1)] 0 [] (I, J, RMm) none (q, J, RMm)
  unfold mM_readWays at h
  refine a_aload_n dX11_readWays_0 rfl rfl ?_
  refine a_ldc_wS (i := 4) lit_11_273 kdM_len dX11_readWays_1 ?_
  obtain ⟨q1, cq1, h⟩ := h_bindS h
  refine a_callV1 [] yy_X11_takesWord ml_11_233 km_0 rfl (sM_takesWord _ (by omega) 4 (by decide) I J q1 cq1) rfl rfl (Nat.le_of_ble_eq_true rfl) dX11_readWays_4 ?_
  refine a_if_eq (tgt := 30) dX11_readWays_7 (by decide) (fun c => ?_) (fun c => ?_)
  · replace h := h_iteT c h
    refine a_aload_n dX11_readWays_30 rfl rfl ?_
    refine a_ldc_wS (i := 5) lit_11_275 kdM_len dX11_readWays_31 ?_
    obtain ⟨q2, cq2, h⟩ := h_bindS h
    refine a_callV1 [] yy_X11_takesWord ml_11_233 km_0 rfl (sM_takesWord _ (by omega) 5 (by decide) q1.2 J q2 cq2) rfl rfl (Nat.le_of_ble_eq_true rfl) dX11_readWays_34 ?_
    refine a_if_eq (tgt := 70) dX11_readWays_37 (by decide) (fun c => ?_) (fun c => ?_)
    · replace h := h_iteT c h
      refine a_aload_n dX11_readWays_70 rfl rfl ?_
      obtain ⟨q3, cq3, h⟩ := h_bindS h
      refine a_callV0 [] yy_X11_next ml_11_216 km_0 rfl (sM_next _ (by omega)  q2.2 J q3 cq3) rfl rfl (Nat.le_of_ble_eq_true rfl) dX11_readWays_71 ?_
      refine a_aload_n dX11_readWays_74 rfl rfl ?_
      refine b_getR hK_11 km_0 (i := 17) rfl fl_11_35 rfl rmm_17 dX11_readWays_75 ?_
      refine a_iload_n dX11_readWays_78 rfl rfl ?_
      refine a_iconst dX11_readWays_79 ic_5 ?_
      obtain ⟨g4, h⟩ := h_gS h
      refine b_iastore km_9 (h_inV g4) dX11_readWays_80 ?_
      obtain ⟨I5, eI5, h⟩ := h_letS h
      refine a_memI eI5 ?_
      refine a_aload_n dX11_readWays_81 rfl rfl ?_
      refine b_getR hK_11 km_0 (i := 19) rfl fl_11_41 rfl rmm_19 dX11_readWays_82 ?_
      refine a_iload_n dX11_readWays_85 rfl rfl ?_
      refine a_aload_n dX11_readWays_86 rfl rfl ?_
      refine b_getI hK_11 km_0 (i := 16) rfl fl_11_245 rfl dX11_readWays_87 ?_
      obtain ⟨g6, h⟩ := h_gS h
      refine b_iastore km_11 (h_inV g6) dX11_readWays_90 ?_
      obtain ⟨I7, eI7, h⟩ := h_letS h
      refine a_memI eI7 ?_
      refine a_aload_n dX11_readWays_91 rfl rfl ?_
      refine a_iconst dX11_readWays_92 ic_m1 ?_
      obtain ⟨q8, cq8, h⟩ := h_bindS h
      refine a_callV0 [] yy_X11_readCond ml_11_305 km_0 rfl (sM_readCond _ (by omega) (-1 : Int32) I7 J q8 cq8) rfl rfl (Nat.le_of_ble_eq_true rfl) dX11_readWays_93 ?_
      refine a_aload_n dX11_readWays_96 rfl rfl ?_
      refine b_getR hK_11 km_0 (i := 20) rfl fl_11_44 rfl rmm_20 dX11_readWays_97 ?_
      refine a_iload_n dX11_readWays_100 rfl rfl ?_
      refine a_aload_n dX11_readWays_101 rfl rfl ?_
      refine b_getI hK_11 km_0 (i := 16) rfl fl_11_245 rfl dX11_readWays_102 ?_
      obtain ⟨g9, h⟩ := h_gS h
      refine b_iastore km_12 (h_inV g9) dX11_readWays_105 ?_
      obtain ⟨I10, eI10, h⟩ := h_letS h
      refine a_memI eI10 ?_
      exact sM_readWays_106 rec Dr hrec (d0 + 1) (by omega) v1 I10 J _ h
    · replace h := h_iteF c h
      refine a_aload_n dX11_readWays_40 rfl rfl ?_
      refine b_getR hK_11 km_0 (i := 17) rfl fl_11_35 rfl rmm_17 dX11_readWays_41 ?_
      refine a_iload_n dX11_readWays_44 rfl rfl ?_
      refine a_iconst dX11_readWays_45 ic_4 ?_
      obtain ⟨g3, h⟩ := h_gS h
      refine b_iastore km_9 (h_inV g3) dX11_readWays_46 ?_
      obtain ⟨I4, eI4, h⟩ := h_letS h
      refine a_memI eI4 ?_
      refine a_aload_n dX11_readWays_47 rfl rfl ?_
      refine b_getR hK_11 km_0 (i := 18) rfl fl_11_38 rfl rmm_18 dX11_readWays_48 ?_
      refine a_iload_n dX11_readWays_51 rfl rfl ?_
      refine a_aload_n dX11_readWays_52 rfl rfl ?_
      refine b_getI hK_11 km_0 (i := 25) rfl fl_11_296 rfl dX11_readWays_53 ?_
      obtain ⟨g5, h⟩ := h_gS h
      refine b_iastore km_10 (h_inV g5) dX11_readWays_56 ?_
      obtain ⟨I6, eI6, h⟩ := h_letS h
      refine a_memI eI6 ?_
      refine a_aload_n dX11_readWays_57 rfl rfl ?_
      refine a_dup dX11_readWays_58 rfl ?_
      refine b_getI hK_11 km_0 (i := 25) rfl fl_11_296 rfl dX11_readWays_59 ?_
      refine a_iconst dX11_readWays_62 ic_1 ?_
      refine a_iadd dX11_readWays_63 ?_
      refine b_putI hK_11 km_0 (i := 25) rfl fl_11_296 rfl rfl (h_NI _) dX11_readWays_64 ?_
      obtain ⟨I7, eI7, h⟩ := h_letS h
      refine a_memI eI7 ?_
      refine a_goto (tgt := 106) dX11_readWays_67 (by decide) ?_
      exact sM_readWays_106 rec Dr hrec (d0 + 1) (by omega) v1 I7 J _ h
  · replace h := h_iteF c h
    refine a_aload_n dX11_readWays_10 rfl rfl ?_
    refine b_getR hK_11 km_0 (i := 17) rfl fl_11_35 rfl rmm_17 dX11_readWays_11 ?_
    refine a_iload_n dX11_readWays_14 rfl rfl ?_
    refine a_iconst dX11_readWays_15 ic_3 ?_
    obtain ⟨g2, h⟩ := h_gS h
    refine b_iastore km_9 (h_inV g2) dX11_readWays_16 ?_
    obtain ⟨I3, eI3, h⟩ := h_letS h
    refine a_memI eI3 ?_
    refine a_aload_n dX11_readWays_17 rfl rfl ?_
    refine a_dup dX11_readWays_18 rfl ?_
    refine b_getI hK_11 km_0 (i := 31) rfl fl_11_299 rfl dX11_readWays_19 ?_
    refine a_iconst dX11_readWays_22 ic_1 ?_
    refine a_iadd dX11_readWays_23 ?_
    refine b_putI hK_11 km_0 (i := 31) rfl fl_11_299 rfl rfl (h_NI _) dX11_readWays_24 ?_
    obtain ⟨I4, eI4, h⟩ := h_letS h
    refine a_memI eI4 ?_
    refine a_goto (tgt := 106) dX11_readWays_27 (by decide) ?_
    exact sM_readWays_106 rec Dr hrec (d0 + 1) (by omega) v1 I4 J _ h
/-! CoinLoopsModel.readStatement()I -/
theorem dX11_readStatement_0 : decode cX11_readStatement 0 = .ok (.aload_n 0, 1) := by decide +kernel
theorem dX11_readStatement_1 : decode cX11_readStatement 1 = .ok (.invokevirtual 290, 3) := by decide +kernel
theorem dX11_readStatement_4 : decode cX11_readStatement 4 = .ok (.ifCond .eq 48, 3) := by decide +kernel
theorem dX11_readStatement_7 : decode cX11_readStatement 7 = .ok (.aload_n 0, 1) := by decide +kernel
theorem dX11_readStatement_8 : decode cX11_readStatement 8 = .ok (.getfield 293, 3) := by decide +kernel
theorem dX11_readStatement_11 : decode cX11_readStatement 11 = .ok (.bipush 24, 2) := by decide +kernel
theorem dX11_readStatement_13 : decode cX11_readStatement 13 = .ok (.if_icmp .eq 39, 3) := by decide +kernel
theorem dX11_readStatement_16 : decode cX11_readStatement 16 = .ok (.aload_n 0, 1) := by decide +kernel
theorem dX11_readStatement_17 : decode cX11_readStatement 17 = .ok (.ldc_w 275, 3) := by decide +kernel
theorem dX11_readStatement_20 : decode cX11_readStatement 20 = .ok (.invokevirtual 212, 3) := by decide +kernel
theorem dX11_readStatement_23 : decode cX11_readStatement 23 = .ok (.ifCond .eq 11, 3) := by decide +kernel
theorem dX11_readStatement_26 : decode cX11_readStatement 26 = .ok (.aload_n 0, 1) := by decide +kernel
theorem dX11_readStatement_27 : decode cX11_readStatement 27 = .ok (.getfield 296, 3) := by decide +kernel
theorem dX11_readStatement_30 : decode cX11_readStatement 30 = .ok (.iconst 3, 1) := by decide +kernel
theorem dX11_readStatement_31 : decode cX11_readStatement 31 = .ok (.if_icmp .eq 21, 3) := by decide +kernel
theorem dX11_readStatement_34 : decode cX11_readStatement 34 = .ok (.aload_n 0, 1) := by decide +kernel
theorem dX11_readStatement_35 : decode cX11_readStatement 35 = .ok (.ldc_w 273, 3) := by decide +kernel
theorem dX11_readStatement_38 : decode cX11_readStatement 38 = .ok (.invokevirtual 212, 3) := by decide +kernel
theorem dX11_readStatement_41 : decode cX11_readStatement 41 = .ok (.ifCond .eq 17, 3) := by decide +kernel
theorem dX11_readStatement_44 : decode cX11_readStatement 44 = .ok (.aload_n 0, 1) := by decide +kernel
theorem dX11_readStatement_45 : decode cX11_readStatement 45 = .ok (.getfield 299, 3) := by decide +kernel
theorem dX11_readStatement_48 : decode cX11_readStatement 48 = .ok (.iconst 2, 1) := by decide +kernel
theorem dX11_readStatement_49 : decode cX11_readStatement 49 = .ok (.if_icmp .ne 9, 3) := by decide +kernel
theorem dX11_readStatement_52 : decode cX11_readStatement 52 = .ok (.aload_n 0, 1) := by decide +kernel
theorem dX11_readStatement_53 : decode cX11_readStatement 53 = .ok (.invokevirtual 225, 3) := by decide +kernel
theorem dX11_readStatement_56 : decode cX11_readStatement 56 = .ok (.iconst 0, 1) := by decide +kernel
theorem dX11_readStatement_57 : decode cX11_readStatement 57 = .ok (.ireturn, 1) := by decide +kernel
theorem dX11_readStatement_58 : decode cX11_readStatement 58 = .ok (.aload_n 0, 1) := by decide +kernel
theorem dX11_readStatement_59 : decode cX11_readStatement 59 = .ok (.getfield 293, 3) := by decide +kernel
theorem dX11_readStatement_62 : decode cX11_readStatement 62 = .ok (.istore_n 1, 1) := by decide +kernel
theorem dX11_readStatement_63 : decode cX11_readStatement 63 = .ok (.aload_n 0, 1) := by decide +kernel
theorem dX11_readStatement_64 : decode cX11_readStatement 64 = .ok (.dup, 1) := by decide +kernel
theorem dX11_readStatement_65 : decode cX11_readStatement 65 = .ok (.getfield 293, 3) := by decide +kernel
theorem dX11_readStatement_68 : decode cX11_readStatement 68 = .ok (.iconst 1, 1) := by decide +kernel
theorem dX11_readStatement_69 : decode cX11_readStatement 69 = .ok (.iadd, 1) := by decide +kernel
theorem dX11_readStatement_70 : decode cX11_readStatement 70 = .ok (.putfield 293, 3) := by decide +kernel
theorem dX11_readStatement_73 : decode cX11_readStatement 73 = .ok (.aload_n 0, 1) := by decide +kernel
theorem dX11_readStatement_74 : decode cX11_readStatement 74 = .ok (.getfield 53, 3) := by decide +kernel
theorem dX11_readStatement_77 : decode cX11_readStatement 77 = .ok (.iload_n 1, 1) := by decide +kernel
theorem dX11_readStatement_78 : decode cX11_readStatement 78 = .ok (.iconst (-1), 1) := by decide +kernel
theorem dX11_readStatement_79 : decode cX11_readStatement 79 = .ok (.iastore, 1) := by decide +kernel
theorem dX11_readStatement_80 : decode cX11_readStatement 80 = .ok (.aload_n 0, 1) := by decide +kernel
theorem dX11_readStatement_81 : decode cX11_readStatement 81 = .ok (.getfield 47, 3) := by decide +kernel
theorem dX11_readStatement_84 : decode cX11_readStatement 84 = .ok (.iload_n 1, 1) := by decide +kernel
theorem dX11_readStatement_85 : decode cX11_readStatement 85 = .ok (.iconst (-1), 1) := by decide +kernel
theorem dX11_readStatement_86 : decode cX11_readStatement 86 = .ok (.iastore, 1) := by decide +kernel
theorem dX11_readStatement_87 : decode cX11_readStatement 87 = .ok (.aload_n 0, 1) := by decide +kernel
theorem dX11_readStatement_88 : decode cX11_readStatement 88 = .ok (.getfield 50, 3) := by decide +kernel
theorem dX11_readStatement_91 : decode cX11_readStatement 91 = .ok (.iload_n 1, 1) := by decide +kernel
theorem dX11_readStatement_92 : decode cX11_readStatement 92 = .ok (.iconst (-1), 1) := by decide +kernel
theorem dX11_readStatement_93 : decode cX11_readStatement 93 = .ok (.iastore, 1) := by decide +kernel
theorem dX11_readStatement_94 : decode cX11_readStatement 94 = .ok (.aload_n 0, 1) := by decide +kernel
theorem dX11_readStatement_95 : decode cX11_readStatement 95 = .ok (.ldc_w 279, 3) := by decide +kernel
theorem dX11_readStatement_98 : decode cX11_readStatement 98 = .ok (.invokevirtual 233, 3) := by decide +kernel
theorem dX11_readStatement_101 : decode cX11_readStatement 101 = .ok (.ifCond .eq 14, 3) := by decide +kernel
theorem dX11_readStatement_104 : decode cX11_readStatement 104 = .ok (.aload_n 0, 1) := by decide +kernel
theorem dX11_readStatement_105 : decode cX11_readStatement 105 = .ok (.getfield 35, 3) := by decide +kernel
theorem dX11_readStatement_108 : decode cX11_readStatement 108 = .ok (.iload_n 1, 1) := by decide +kernel
theorem dX11_readStatement_109 : decode cX11_readStatement 109 = .ok (.bipush 6, 2) := by decide +kernel
theorem dX11_readStatement_111 : decode cX11_readStatement 111 = .ok (.iastore, 1) := by decide +kernel
theorem dX11_readStatement_112 : decode cX11_readStatement 112 = .ok (.goto 114, 3) := by decide +kernel
theorem dX11_readStatement_115 : decode cX11_readStatement 115 = .ok (.aload_n 0, 1) := by decide +kernel
theorem dX11_readStatement_116 : decode cX11_readStatement 116 = .ok (.ldc_w 271, 3) := by decide +kernel
theorem dX11_readStatement_119 : decode cX11_readStatement 119 = .ok (.invokevirtual 233, 3) := by decide +kernel
theorem dX11_readStatement_122 : decode cX11_readStatement 122 = .ok (.ifCond .eq 26, 3) := by decide +kernel
theorem dX11_readStatement_125 : decode cX11_readStatement 125 = .ok (.aload_n 0, 1) := by decide +kernel
theorem dX11_readStatement_126 : decode cX11_readStatement 126 = .ok (.getfield 35, 3) := by decide +kernel
theorem dX11_readStatement_129 : decode cX11_readStatement 129 = .ok (.iload_n 1, 1) := by decide +kernel
theorem dX11_readStatement_130 : decode cX11_readStatement 130 = .ok (.iconst 2, 1) := by decide +kernel
theorem dX11_readStatement_131 : decode cX11_readStatement 131 = .ok (.iastore, 1) := by decide +kernel
theorem dX11_readStatement_132 : decode cX11_readStatement 132 = .ok (.aload_n 0, 1) := by decide +kernel
theorem dX11_readStatement_133 : decode cX11_readStatement 133 = .ok (.getfield 38, 3) := by decide +kernel
theorem dX11_readStatement_136 : decode cX11_readStatement 136 = .ok (.iload_n 1, 1) := by decide +kernel
theorem dX11_readStatement_137 : decode cX11_readStatement 137 = .ok (.aload_n 0, 1) := by decide +kernel
theorem dX11_readStatement_138 : decode cX11_readStatement 138 = .ok (.iconst 0, 1) := by decide +kernel
theorem dX11_readStatement_139 : decode cX11_readStatement 139 = .ok (.bipush 20, 2) := by decide +kernel
theorem dX11_readStatement_141 : decode cX11_readStatement 141 = .ok (.invokevirtual 228, 3) := by decide +kernel
theorem dX11_readStatement_144 : decode cX11_readStatement 144 = .ok (.iastore, 1) := by decide +kernel
theorem dX11_readStatement_145 : decode cX11_readStatement 145 = .ok (.goto 81, 3) := by decide +kernel
theorem dX11_readStatement_148 : decode cX11_readStatement 148 = .ok (.aload_n 0, 1) := by decide +kernel
theorem dX11_readStatement_149 : decode cX11_readStatement 149 = .ok (.ldc 231, 2) := by decide +kernel
theorem dX11_readStatement_151 : decode cX11_readStatement 151 = .ok (.invokevirtual 212, 3) := by decide +kernel
theorem dX11_readStatement_154 : decode cX11_readStatement 154 = .ok (.ifCond .ne 12, 3) := by decide +kernel
theorem dX11_readStatement_157 : decode cX11_readStatement 157 = .ok (.aload_n 0, 1) := by decide +kernel
theorem dX11_readStatement_158 : decode cX11_readStatement 158 = .ok (.ldc 236, 2) := by decide +kernel
theorem dX11_readStatement_160 : decode cX11_readStatement 160 = .ok (.invokevirtual 212, 3) := by decide +kernel
theorem dX11_readStatement_163 : decode cX11_readStatement 163 = .ok (.ifCond .eq 58, 3) := by decide +kernel
theorem dX11_readStatement_166 : decode cX11_readStatement 166 = .ok (.aload_n 0, 1) := by decide +kernel
theorem dX11_readStatement_167 : decode cX11_readStatement 167 = .ok (.getfield 35, 3) := by decide +kernel
theorem dX11_readStatement_170 : decode cX11_readStatement 170 = .ok (.iload_n 1, 1) := by decide +kernel
theorem dX11_readStatement_171 : decode cX11_readStatement 171 = .ok (.aload_n 0, 1) := by decide +kernel
theorem dX11_readStatement_172 : decode cX11_readStatement 172 = .ok (.ldc 231, 2) := by decide +kernel
theorem dX11_readStatement_174 : decode cX11_readStatement 174 = .ok (.invokevirtual 212, 3) := by decide +kernel
theorem dX11_readStatement_177 : decode cX11_readStatement 177 = .ok (.ifCond .eq 7, 3) := by decide +kernel
theorem dX11_readStatement_180 : decode cX11_readStatement 180 = .ok (.iconst 0, 1) := by decide +kernel
theorem dX11_readStatement_181 : decode cX11_readStatement 181 = .ok (.goto 4, 3) := by decide +kernel
theorem dX11_readStatement_184 : decode cX11_readStatement 184 = .ok (.iconst 1, 1) := by decide +kernel
theorem dX11_readStatement_185 : decode cX11_readStatement 185 = .ok (.iastore, 1) := by decide +kernel
theorem dX11_readStatement_186 : decode cX11_readStatement 186 = .ok (.aload_n 0, 1) := by decide +kernel
theorem dX11_readStatement_187 : decode cX11_readStatement 187 = .ok (.invokevirtual 216, 3) := by decide +kernel
theorem dX11_readStatement_190 : decode cX11_readStatement 190 = .ok (.aload_n 0, 1) := by decide +kernel
theorem dX11_readStatement_191 : decode cX11_readStatement 191 = .ok (.bipush 61, 2) := by decide +kernel
theorem dX11_readStatement_193 : decode cX11_readStatement 193 = .ok (.invokevirtual 287, 3) := by decide +kernel
theorem dX11_readStatement_196 : decode cX11_readStatement 196 = .ok (.aload_n 0, 1) := by decide +kernel
theorem dX11_readStatement_197 : decode cX11_readStatement 197 = .ok (.getfield 38, 3) := by decide +kernel
theorem dX11_readStatement_200 : decode cX11_readStatement 200 = .ok (.iload_n 1, 1) := by decide +kernel
theorem dX11_readStatement_201 : decode cX11_readStatement 201 = .ok (.aload_n 0, 1) := by decide +kernel
theorem dX11_readStatement_202 : decode cX11_readStatement 202 = .ok (.getfield 200, 3) := by decide +kernel
theorem dX11_readStatement_205 : decode cX11_readStatement 205 = .ok (.iconst (-1), 1) := by decide +kernel
theorem dX11_readStatement_206 : decode cX11_readStatement 206 = .ok (.if_icmp .ne 10, 3) := by decide +kernel
theorem dX11_readStatement_209 : decode cX11_readStatement 209 = .ok (.aload_n 0, 1) := by decide +kernel
theorem dX11_readStatement_210 : decode cX11_readStatement 210 = .ok (.invokevirtual 252, 3) := by decide +kernel
theorem dX11_readStatement_213 : decode cX11_readStatement 213 = .ok (.goto 4, 3) := by decide +kernel
theorem dX11_readStatement_216 : decode cX11_readStatement 216 = .ok (.iconst 0, 1) := by decide +kernel
theorem dX11_readStatement_217 : decode cX11_readStatement 217 = .ok (.iastore, 1) := by decide +kernel
theorem dX11_readStatement_218 : decode cX11_readStatement 218 = .ok (.goto 8, 3) := by decide +kernel
theorem dX11_readStatement_221 : decode cX11_readStatement 221 = .ok (.aload_n 0, 1) := by decide +kernel
theorem dX11_readStatement_222 : decode cX11_readStatement 222 = .ok (.iload_n 1, 1) := by decide +kernel
theorem dX11_readStatement_223 : decode cX11_readStatement 223 = .ok (.invokevirtual 302, 3) := by decide +kernel
theorem dX11_readStatement_226 : decode cX11_readStatement 226 = .ok (.iload_n 1, 1) := by decide +kernel
theorem dX11_readStatement_227 : decode cX11_readStatement 227 = .ok (.ireturn, 1) := by decide +kernel
def mM_readStatement_217 (rec : hI → Option (Int32 × hI))  (v1 : Int32) (vs1 : Int32) (vs2 : Int32) (I : hI) : Option (Int32 × hI) :=
  h_g (h_in vs1 48) <|
  h_let (h_u I 10 vs1.toNatClampNeg vs2) fun I2 =>
  some (v1, I2)
set_option maxHeartbeats 4000000 in
theorem sM_readStatement_217 (rec : hI → Option (Int32 × hI)) (Dr : Nat) (hrec : ∀ d, Dr ≤ d → ∀  (I : hI) (J : hJ) (q : Int32 × hI), rec I = some q → HMet hFT yX11_readBody cX11_readBody 4 (some .int) kdM d [.ref 0] (I, J, RMm) (some (.int q.1)) (q.2, J, RMm)) (d : Nat) (hd : (Dr + 13) + 1 ≤ d) (v1 : Int32) (vs1 : Int32) (vs2 : Int32) (I : hI) (J : hJ) (q : Int32 × hI) (h : mM_readStatement_217 rec v1 vs1 vs2 I = some q) : AW hFT cX11_readStatement 2 (some .int) RX11 kdM d [(1, .int v1)] 217 [.int vs2, .int vs1, .ref 10] (I, J, RMm) (some (.int q.1)) (q.2, J, RMm) := by
  obtain ⟨d0, rfl, hd0⟩ := h_mono hd
  unfold mM_readStatement_217 at h
  obtain ⟨g1, h⟩ := h_gS h
  refine b_iastore km_10 (h_inV g1) dX11_readStatement_217 ?_
  obtain ⟨I2, eI2, h⟩ := h_letS h
  refine a_memI eI2 ?_
  refine a_goto (tgt := 226) dX11_readStatement_218 (by decide) ?_
  refine a_iload_n dX11_readStatement_226 rfl rfl ?_
  cases h
  exact a_iret dX11_readStatement_227
def mM_readStatement_185 (rec : hI → Option (Int32 × hI))  (v1 : Int32) (vs1 : Int32) (vs2 : Int32) (I : hI) : Option (Int32 × hI) :=
  h_g (h_in vs1 48) <|
  h_let (h_u I 9 vs1.toNatClampNeg vs2) fun I2 =>
  (mM_next I2).bind fun q3 =>
  (mM_must (61 : Int32) q3).bind fun q4 =>
  if (q4 0 5) = (-1 : Int32) then
    ((mM_readSum q4).bind fun q5 =>
    mM_readStatement_217 rec v1 v1 q5.1 q5.2)
  else
    mM_readStatement_217 rec v1 v1 (0 : Int32) q4
set_option maxHeartbeats 4000000 in
theorem sM_readStatement_185 (rec : hI → Option (Int32 × hI)) (Dr : Nat) (hrec : ∀ d, Dr ≤ d → ∀  (I : hI) (J : hJ) (q : Int32 × hI), rec I = some q → HMet hFT yX11_readBody cX11_readBody 4 (some .int) kdM d [.ref 0] (I, J, RMm) (some (.int q.1)) (q.2, J, RMm)) (d : Nat) (hd : (Dr + 13) + 1 ≤ d) (v1 : Int32) (vs1 : Int32) (vs2 : Int32) (I : hI) (J : hJ) (q : Int32 × hI) (h : mM_readStatement_185 rec v1 vs1 vs2 I = some q) : AW hFT cX11_readStatement 2 (some .int) RX11 kdM d [(0, .ref 0), (1, .int v1)] 185 [.int vs2, .int vs1, .ref 9] (I, J, RMm) (some (.int q.1)) (q.2, J, RMm) := by
  obtain ⟨d0, rfl, hd0⟩ := h_mono hd
  unfold mM_readStatement_185 at h
  obtain ⟨g1, h⟩ := h_gS h
  refine b_iastore km_9 (h_inV g1) dX11_readStatement_185 ?_
  obtain ⟨I2, eI2, h⟩ := h_letS h
  refine a_memI eI2 ?_
  refine a_aload_n dX11_readStatement_186 rfl rfl ?_
  obtain ⟨q3, cq3, h⟩ := h_bindS h
  refine a_callV0 [] yy_X11_next ml_11_216 km_0 rfl (sM_next _ (by omega)  I2 J q3 cq3) rfl rfl (Nat.le_of_ble_eq_true rfl) dX11_readStatement_187 ?_
  refine a_aload_n dX11_readStatement_190 rfl rfl ?_
  refine a_bipush dX11_readStatement_191 bp_61 ?_
  obtain ⟨q4, cq4, h⟩ := h_bindS h
  refine a_callV0 [] yy_X11_must ml_11_287 km_0 rfl (sM_must _ (by omega) (61 : Int32) q3 J q4 cq4) rfl rfl (Nat.le_of_ble_eq_true rfl) dX11_readStatement_193 ?_
  refine a_aload_n dX11_readStatement_196 rfl rfl ?_
  refine b_getR hK_11 km_0 (i := 18) rfl fl_11_38 rfl rmm_18 dX11_readStatement_197 ?_
  refine a_iload_n dX11_readStatement_200 rfl rfl ?_
  refine a_aload_n dX11_readStatement_201 rfl rfl ?_
  refine b_getI hK_11 km_0 (i := 5) rfl fl_11_200 rfl dX11_readStatement_202 ?_
  refine a_iconst dX11_readStatement_205 ic_m1 ?_
  refine a_icmp_ne (tgt := 216) dX11_readStatement_206 (by decide) (fun c => ?_) (fun c => ?_)
  · replace h := h_iteF c h
    refine a_iconst dX11_readStatement_216 ic_0 ?_
    refine a_sub (lv' := [(1, .int v1)]) [1] rfl ?_
    exact sM_readStatement_217 rec Dr hrec (d0 + 1) (by omega) v1 v1 (0 : Int32) q4 J _ h
  · replace h := h_iteT c h
    refine a_aload_n dX11_readStatement_209 rfl rfl ?_
    obtain ⟨q5, cq5, h⟩ := h_bindS h
    refine a_callV1 [.int v1, .ref 10] yy_X11_readSum ml_11_252 km_0 rfl (sM_readSum _ (by omega)  q4 J q5 cq5) rfl rfl (Nat.le_of_ble_eq_true rfl) dX11_readStatement_210 ?_
    refine a_goto (tgt := 217) dX11_readStatement_213 (by decide) ?_
    refine a_sub (lv' := [(1, .int v1)]) [1] rfl ?_
    exact sM_readStatement_217 rec Dr hrec (d0 + 1) (by omega) v1 v1 q5.1 q5.2 J _ h
def mM_readStatement_166 (rec : hI → Option (Int32 × hI))  (v1 : Int32) (I : hI) : Option (Int32 × hI) :=
  (mM_isWord 0 I).bind fun q1 =>
  if q1 = 0 then
    mM_readStatement_185 rec v1 v1 (1 : Int32) I
  else
    mM_readStatement_185 rec v1 v1 (0 : Int32) I
set_option maxHeartbeats 4000000 in
theorem sM_readStatement_166 (rec : hI → Option (Int32 × hI)) (Dr : Nat) (hrec : ∀ d, Dr ≤ d → ∀  (I : hI) (J : hJ) (q : Int32 × hI), rec I = some q → HMet hFT yX11_readBody cX11_readBody 4 (some .int) kdM d [.ref 0] (I, J, RMm) (some (.int q.1)) (q.2, J, RMm)) (d : Nat) (hd : (Dr + 13) + 1 ≤ d) (v1 : Int32) (I : hI) (J : hJ) (q : Int32 × hI) (h : mM_readStatement_166 rec v1 I = some q) : AW hFT cX11_readStatement 2 (some .int) RX11 kdM d [(0, .ref 0), (1, .int v1)] 166 [] (I, J, RMm) (some (.int q.1)) (q.2, J, RMm) := by
  obtain ⟨d0, rfl, hd0⟩ := h_mono hd
  unfold mM_readStatement_166 at h
  refine a_aload_n dX11_readStatement_166 rfl rfl ?_
  refine b_getR hK_11 km_0 (i := 17) rfl fl_11_35 rfl rmm_17 dX11_readStatement_167 ?_
  refine a_iload_n dX11_readStatement_170 rfl rfl ?_
  refine a_aload_n dX11_readStatement_171 rfl rfl ?_
  refine a_ldcS (i := 0) lit_11_231 kdM_len dX11_readStatement_172 ?_
  obtain ⟨q1, cq1, h⟩ := h_bindS h
  refine a_callV1 [.int v1, .ref 9] yy_X11_isWord ml_11_212 km_0 rfl (sM_isWord _ (by omega) 0 (by decide) I J q1 cq1) rfl rfl (Nat.le_of_ble_eq_true rfl) dX11_readStatement_174 ?_
  refine a_if_eq (tgt := 184) dX11_readStatement_177 (by decide) (fun c => ?_) (fun c => ?_)
  · replace h := h_iteT c h
    refine a_iconst dX11_readStatement_184 ic_1 ?_
    exact sM_readStatement_185 rec Dr hrec (d0 + 1) (by omega) v1 v1 (1 : Int32) I J _ h
  · replace h := h_iteF c h
    refine a_iconst dX11_readStatement_180 ic_0 ?_
    refine a_goto (tgt := 185) dX11_readStatement_181 (by decide) ?_
    exact sM_readStatement_185 rec Dr hrec (d0 + 1) (by omega) v1 v1 (0 : Int32) I J _ h
def mM_readStatement_58 (rec : hI → Option (Int32 × hI))   (I : hI) : Option (Int32 × hI) :=
  h_let (I 0 24) fun v1x0 =>
  h_let (h_u I 0 24 ((I 0 24) + (1 : Int32))) fun I2 =>
  h_g (h_in v1x0 48) <|
  h_let (h_u I2 15 v1x0.toNatClampNeg (-1 : Int32)) fun I4 =>
  h_g (h_in v1x0 48) <|
  h_let (h_u I4 13 v1x0.toNatClampNeg (-1 : Int32)) fun I6 =>
  h_g (h_in v1x0 48) <|
  h_let (h_u I6 14 v1x0.toNatClampNeg (-1 : Int32)) fun I8 =>
  (mM_takesWord 7 I8).bind fun q9 =>
  if q9.1 = 0 then
    ((mM_takesWord 3 q9.2).bind fun q10 =>
    if q10.1 = 0 then
      ((mM_isWord 0 q10.2).bind fun q11 =>
      if q11 = 0 then
        ((mM_isWord 1 q10.2).bind fun q12 =>
        if q12 = 0 then
          ((mM_readWays rec v1x0 q10.2).bind fun q13 =>
          some (v1x0, q13))
        else
          mM_readStatement_166 rec v1x0 q10.2)
      else
        mM_readStatement_166 rec v1x0 q10.2)
    else
      (h_g (h_in v1x0 48) <|
      h_let (h_u q10.2 9 v1x0.toNatClampNeg (2 : Int32)) fun I12 =>
      (mM_takesNumber (0 : Int32) (20 : Int32) I12).bind fun q13 =>
      h_g (h_in v1x0 48) <|
      h_let (h_u q13.2 10 v1x0.toNatClampNeg q13.1) fun I15 =>
      some (v1x0, I15)))
  else
    (h_g (h_in v1x0 48) <|
    h_let (h_u q9.2 9 v1x0.toNatClampNeg (6 : Int32)) fun I11 =>
    some (v1x0, I11))
set_option maxHeartbeats 4000000 in
theorem sM_readStatement_58 (rec : hI → Option (Int32 × hI)) (Dr : Nat) (hrec : ∀ d, Dr ≤ d → ∀  (I : hI) (J : hJ) (q : Int32 × hI), rec I = some q → HMet hFT yX11_readBody cX11_readBody 4 (some .int) kdM d [.ref 0] (I, J, RMm) (some (.int q.1)) (q.2, J, RMm)) (d : Nat) (hd : (Dr + 13) + 1 ≤ d)  (I : hI) (J : hJ) (q : Int32 × hI) (h : mM_readStatement_58 rec I = some q) : AW hFT cX11_readStatement 2 (some .int) RX11 kdM d [(0, .ref 0)] 58 [] (I, J, RMm) (some (.int q.1)) (q.2, J, RMm) := by
  obtain ⟨d0, rfl, hd0⟩ := h_mono hd
  unfold mM_readStatement_58 at h
  refine a_aload_n dX11_readStatement_58 rfl rfl ?_
  refine b_getI hK_11 km_0 (i := 24) rfl fl_11_293 rfl dX11_readStatement_59 ?_
  obtain ⟨v1x0, ev1x0, h⟩ := h_letS h
  refine a_topI ev1x0 ?_
  refine a_istore_n (lv' := [(1, .int v1x0), (0, .ref 0)]) dX11_readStatement_62 rfl (by decide) rfl ?_
  refine a_aload_n dX11_readStatement_63 rfl rfl ?_
  refine a_dup dX11_readStatement_64 rfl ?_
  refine b_getI hK_11 km_0 (i := 24) rfl fl_11_293 rfl dX11_readStatement_65 ?_
  refine a_iconst dX11_readStatement_68 ic_1 ?_
  refine a_iadd dX11_readStatement_69 ?_
  refine b_putI hK_11 km_0 (i := 24) rfl fl_11_293 rfl rfl (h_NI _) dX11_readStatement_70 ?_
  obtain ⟨I2, eI2, h⟩ := h_letS h
  refine a_memI eI2 ?_
  refine a_aload_n dX11_readStatement_73 rfl rfl ?_
  refine b_getR hK_11 km_0 (i := 23) rfl fl_11_53 rfl rmm_23 dX11_readStatement_74 ?_
  refine a_iload_n dX11_readStatement_77 rfl rfl ?_
  refine a_iconst dX11_readStatement_78 ic_m1 ?_
  obtain ⟨g3, h⟩ := h_gS h
  refine b_iastore km_15 (h_inV g3) dX11_readStatement_79 ?_
  obtain ⟨I4, eI4, h⟩ := h_letS h
  refine a_memI eI4 ?_
  refine a_aload_n dX11_readStatement_80 rfl rfl ?_
  refine b_getR hK_11 km_0 (i := 21) rfl fl_11_47 rfl rmm_21 dX11_readStatement_81 ?_
  refine a_iload_n dX11_readStatement_84 rfl rfl ?_
  refine a_iconst dX11_readStatement_85 ic_m1 ?_
  obtain ⟨g5, h⟩ := h_gS h
  refine b_iastore km_13 (h_inV g5) dX11_readStatement_86 ?_
  obtain ⟨I6, eI6, h⟩ := h_letS h
  refine a_memI eI6 ?_
  refine a_aload_n dX11_readStatement_87 rfl rfl ?_
  refine b_getR hK_11 km_0 (i := 22) rfl fl_11_50 rfl rmm_22 dX11_readStatement_88 ?_
  refine a_iload_n dX11_readStatement_91 rfl rfl ?_
  refine a_iconst dX11_readStatement_92 ic_m1 ?_
  obtain ⟨g7, h⟩ := h_gS h
  refine b_iastore km_14 (h_inV g7) dX11_readStatement_93 ?_
  obtain ⟨I8, eI8, h⟩ := h_letS h
  refine a_memI eI8 ?_
  refine a_aload_n dX11_readStatement_94 rfl rfl ?_
  refine a_ldc_wS (i := 7) lit_11_279 kdM_len dX11_readStatement_95 ?_
  obtain ⟨q9, cq9, h⟩ := h_bindS h
  refine a_callV1 [] yy_X11_takesWord ml_11_233 km_0 rfl (sM_takesWord _ (by omega) 7 (by decide) I8 J q9 cq9) rfl rfl (Nat.le_of_ble_eq_true rfl) dX11_readStatement_98 ?_
  refine a_if_eq (tgt := 115) dX11_readStatement_101 (by decide) (fun c => ?_) (fun c => ?_)
  · replace h := h_iteT c h
    refine a_aload_n dX11_readStatement_115 rfl rfl ?_
    refine a_ldc_wS (i := 3) lit_11_271 kdM_len dX11_readStatement_116 ?_
    obtain ⟨q10, cq10, h⟩ := h_bindS h
    refine a_callV1 [] yy_X11_takesWord ml_11_233 km_0 rfl (sM_takesWord _ (by omega) 3 (by decide) q9.2 J q10 cq10) rfl rfl (Nat.le_of_ble_eq_true rfl) dX11_readStatement_119 ?_
    refine a_if_eq (tgt := 148) dX11_readStatement_122 (by decide) (fun c => ?_) (fun c => ?_)
    · replace h := h_iteT c h
      refine a_aload_n dX11_readStatement_148 rfl rfl ?_
      refine a_ldcS (i := 0) lit_11_231 kdM_len dX11_readStatement_149 ?_
      obtain ⟨q11, cq11, h⟩ := h_bindS h
      refine a_callV1 [] yy_X11_isWord ml_11_212 km_0 rfl (sM_isWord _ (by omega) 0 (by decide) q10.2 J q11 cq11) rfl rfl (Nat.le_of_ble_eq_true rfl) dX11_readStatement_151 ?_
      refine a_if_ne (tgt := 166) dX11_readStatement_154 (by decide) (fun c => ?_) (fun c => ?_)
      · replace h := h_iteF c h
        refine a_sub (lv' := [(0, .ref 0), (1, .int v1x0)]) [1, 0] rfl ?_
        exact sM_readStatement_166 rec Dr hrec (d0 + 1) (by omega) v1x0 q10.2 J _ h
      · replace h := h_iteT c h
        refine a_aload_n dX11_readStatement_157 rfl rfl ?_
        refine a_ldcS (i := 1) lit_11_236 kdM_len dX11_readStatement_158 ?_
        obtain ⟨q12, cq12, h⟩ := h_bindS h
        refine a_callV1 [] yy_X11_isWord ml_11_212 km_0 rfl (sM_isWord _ (by omega) 1 (by decide) q10.2 J q12 cq12) rfl rfl (Nat.le_of_ble_eq_true rfl) dX11_readStatement_160 ?_
        refine a_if_eq (tgt := 221) dX11_readStatement_163 (by decide) (fun c => ?_) (fun c => ?_)
        · replace h := h_iteT c h
          refine a_aload_n dX11_readStatement_221 rfl rfl ?_
          refine a_iload_n dX11_readStatement_222 rfl rfl ?_
          obtain ⟨q13, cq13, h⟩ := h_bindS h
          refine a_callV0 [] yy_X11_readWays ml_11_302 km_0 rfl (sM_readWays rec Dr hrec _ (by omega) v1x0 q10.2 J q13 cq13) rfl rfl (Nat.le_of_ble_eq_true rfl) dX11_readStatement_223 ?_
          refine a_iload_n dX11_readStatement_226 rfl rfl ?_
          cases h
          exact a_iret dX11_readStatement_227
        · replace h := h_iteF c h
          refine a_sub (lv' := [(0, .ref 0), (1, .int v1x0)]) [1, 0] rfl ?_
          exact sM_readStatement_166 rec Dr hrec (d0 + 1) (by omega) v1x0 q10.2 J _ h
    · replace h := h_iteF c h
      refine a_aload_n dX11_readStatement_125 rfl rfl ?_
      refine b_getR hK_11 km_0 (i := 17) rfl fl_11_35 rfl rmm_17 dX11_readStatement_126 ?_
      refine a_iload_n dX11_readStatement_129 rfl rfl ?_
      refine a_iconst dX11_readStatement_130 ic_2 ?_
      obtain ⟨g11, h⟩ := h_gS h
      refine b_iastore km_9 (h_inV g11) dX11_readStatement_131 ?_
      obtain ⟨I12, eI12, h⟩ := h_letS h
      refine a_memI eI12 ?_
      refine a_aload_n dX11_readStatement_132 rfl rfl ?_
      refine b_getR hK_11 km_0 (i := 18) rfl fl_11_38 rfl rmm_18 dX11_readStatement_133 ?_
      refine a_iload_n dX11_readStatement_136 rfl rfl ?_
      refine a_aload_n dX11_readStatement_137 rfl rfl ?_
      refine a_iconst dX11_readStatement_138 ic_0 ?_
      refine a_bipush dX11_readStatement_139 bp_20 ?_
      obtain ⟨q13, cq13, h⟩ := h_bindS h
      refine a_callV1 [.int v1x0, .ref 10] yy_X11_takesNumber ml_11_228 km_0 rfl (sM_takesNumber _ (by omega) (0 : Int32) (20 : Int32) I12 J q13 cq13) rfl rfl (Nat.le_of_ble_eq_true rfl) dX11_readStatement_141 ?_
      obtain ⟨g14, h⟩ := h_gS h
      refine b_iastore km_10 (h_inV g14) dX11_readStatement_144 ?_
      obtain ⟨I15, eI15, h⟩ := h_letS h
      refine a_memI eI15 ?_
      refine a_goto (tgt := 226) dX11_readStatement_145 (by decide) ?_
      refine a_iload_n dX11_readStatement_226 rfl rfl ?_
      cases h
      exact a_iret dX11_readStatement_227
  · replace h := h_iteF c h
    refine a_aload_n dX11_readStatement_104 rfl rfl ?_
    refine b_getR hK_11 km_0 (i := 17) rfl fl_11_35 rfl rmm_17 dX11_readStatement_105 ?_
    refine a_iload_n dX11_readStatement_108 rfl rfl ?_
    refine a_bipush dX11_readStatement_109 bp_6 ?_
    obtain ⟨g10, h⟩ := h_gS h
    refine b_iastore km_9 (h_inV g10) dX11_readStatement_111 ?_
    obtain ⟨I11, eI11, h⟩ := h_letS h
    refine a_memI eI11 ?_
    refine a_goto (tgt := 226) dX11_readStatement_112 (by decide) ?_
    refine a_iload_n dX11_readStatement_226 rfl rfl ?_
    cases h
    exact a_iret dX11_readStatement_227
def mM_readStatement_52 (rec : hI → Option (Int32 × hI))   (I : hI) : Option (Int32 × hI) :=
  h_let (mM_bad I) fun q1 =>
  some ((0 : Int32), q1)
set_option maxHeartbeats 4000000 in
theorem sM_readStatement_52 (rec : hI → Option (Int32 × hI)) (Dr : Nat) (hrec : ∀ d, Dr ≤ d → ∀  (I : hI) (J : hJ) (q : Int32 × hI), rec I = some q → HMet hFT yX11_readBody cX11_readBody 4 (some .int) kdM d [.ref 0] (I, J, RMm) (some (.int q.1)) (q.2, J, RMm)) (d : Nat) (hd : (Dr + 13) + 1 ≤ d)  (I : hI) (J : hJ) (q : Int32 × hI) (h : mM_readStatement_52 rec I = some q) : AW hFT cX11_readStatement 2 (some .int) RX11 kdM d [(0, .ref 0)] 52 [] (I, J, RMm) (some (.int q.1)) (q.2, J, RMm) := by
  obtain ⟨d0, rfl, hd0⟩ := h_mono hd
  unfold mM_readStatement_52 at h
  refine a_aload_n dX11_readStatement_52 rfl rfl ?_
  obtain ⟨q1, cq1, h⟩ := h_letS h
  refine a_callV0 [] yy_X11_bad ml_11_225 km_0 rfl (sM_bad _ (by omega)  I J q1 cq1) rfl rfl (Nat.le_of_ble_eq_true rfl) dX11_readStatement_53 ?_
  refine a_iconst dX11_readStatement_56 ic_0 ?_
  cases h
  exact a_iret dX11_readStatement_57
def mM_readStatement_34 (rec : hI → Option (Int32 × hI))   (I : hI) : Option (Int32 × hI) :=
  (mM_isWord 4 I).bind fun q1 =>
  if q1 = 0 then
    mM_readStatement_58 rec I
  else
    (if (I 0 31) = (2 : Int32) then
      mM_readStatement_52 rec I
    else
      mM_readStatement_58 rec I)
set_option maxHeartbeats 4000000 in
theorem sM_readStatement_34 (rec : hI → Option (Int32 × hI)) (Dr : Nat) (hrec : ∀ d, Dr ≤ d → ∀  (I : hI) (J : hJ) (q : Int32 × hI), rec I = some q → HMet hFT yX11_readBody cX11_readBody 4 (some .int) kdM d [.ref 0] (I, J, RMm) (some (.int q.1)) (q.2, J, RMm)) (d : Nat) (hd : (Dr + 13) + 1 ≤ d)  (I : hI) (J : hJ) (q : Int32 × hI) (h : mM_readStatement_34 rec I = some q) : AW hFT cX11_readStatement 2 (some .int) RX11 kdM d [(0, .ref 0)] 34 [] (I, J, RMm) (some (.int q.1)) (q.2, J, RMm) := by
  obtain ⟨d0, rfl, hd0⟩ := h_mono hd
  unfold mM_readStatement_34 at h
  refine a_aload_n dX11_readStatement_34 rfl rfl ?_
  refine a_ldc_wS (i := 4) lit_11_273 kdM_len dX11_readStatement_35 ?_
  obtain ⟨q1, cq1, h⟩ := h_bindS h
  refine a_callV1 [] yy_X11_isWord ml_11_212 km_0 rfl (sM_isWord _ (by omega) 4 (by decide) I J q1 cq1) rfl rfl (Nat.le_of_ble_eq_true rfl) dX11_readStatement_38 ?_
  refine a_if_eq (tgt := 58) dX11_readStatement_41 (by decide) (fun c => ?_) (fun c => ?_)
  · replace h := h_iteT c h
    exact sM_readStatement_58 rec Dr hrec (d0 + 1) (by omega)  I J _ h
  · replace h := h_iteF c h
    refine a_aload_n dX11_readStatement_44 rfl rfl ?_
    refine b_getI hK_11 km_0 (i := 31) rfl fl_11_299 rfl dX11_readStatement_45 ?_
    refine a_iconst dX11_readStatement_48 ic_2 ?_
    refine a_icmp_ne (tgt := 58) dX11_readStatement_49 (by decide) (fun c => ?_) (fun c => ?_)
    · replace h := h_iteF c h
      exact sM_readStatement_58 rec Dr hrec (d0 + 1) (by omega)  I J _ h
    · replace h := h_iteT c h
      exact sM_readStatement_52 rec Dr hrec (d0 + 1) (by omega)  I J _ h
def mM_readStatement (rec : hI → Option (Int32 × hI))   (I : hI) : Option (Int32 × hI) :=
  (mM_isStatement I).bind fun q1 =>
  if q1 = 0 then
    mM_readStatement_52 rec I
  else
    (if (I 0 24) = (24 : Int32) then
      mM_readStatement_52 rec I
    else
      ((mM_isWord 5 I).bind fun q2 =>
      if q2 = 0 then
        mM_readStatement_34 rec I
      else
        (if (I 0 25) = (3 : Int32) then
          mM_readStatement_52 rec I
        else
          mM_readStatement_34 rec I)))
set_option maxHeartbeats 4000000 in
theorem sM_readStatement (rec : hI → Option (Int32 × hI)) (Dr : Nat) (hrec : ∀ d, Dr ≤ d → ∀  (I : hI) (J : hJ) (q : Int32 × hI), rec I = some q → HMet hFT yX11_readBody cX11_readBody 4 (some .int) kdM d [.ref 0] (I, J, RMm) (some (.int q.1)) (q.2, J, RMm)) (d : Nat) (hd : (Dr + 13) + 1 ≤ d)  (I : hI) (J : hJ) (q : Int32 × hI) (h : mM_readStatement rec I = some q) : HMet hFT yX11_readStatement cX11_readStatement 2 (some .int) kdM d [.ref 0] (I, J, RMm) (some (.int q.1)) (q.2, J, RMm) := by
  obtain ⟨d0, rfl, hd0⟩ := h_mono hd
  refine HMet.of (by decide) (Nat.le_of_ble_eq_true rfl) ?_
  show AW hFT cX11_readStatement 2 (some .int) RX11 kdM (d0 + 1) [(0, .ref 0)] 0 [] (I, J, RMm) (some (.int q.1)) (q.2, J, RMm)
  unfold mM_readStatement at h
  refine a_aload_n dX11_readStatement_0 rfl rfl ?_
  obtain ⟨q1, cq1, h⟩ := h_bindS h
  refine a_callV1 [] yy_X11_isStatement ml_11_290 km_0 rfl (sM_isStatement _ (by omega)  I J q1 cq1) rfl rfl (Nat.le_of_ble_eq_true rfl) dX11_readStatement_1 ?_
  refine a_if_eq (tgt := 52) dX11_readStatement_4 (by decide) (fun c => ?_) (fun c => ?_)
  · replace h := h_iteT c h
    exact sM_readStatement_52 rec Dr hrec (d0 + 1) (by omega)  I J _ h
  · replace h := h_iteF c h
    refine a_aload_n dX11_readStatement_7 rfl rfl ?_
    refine b_getI hK_11 km_0 (i := 24) rfl fl_11_293 rfl dX11_readStatement_8 ?_
    refine a_bipush dX11_readStatement_11 bp_24 ?_
    refine a_icmp_eq (tgt := 52) dX11_readStatement_13 (by decide) (fun c => ?_) (fun c => ?_)
    · replace h := h_iteT c h
      exact sM_readStatement_52 rec Dr hrec (d0 + 1) (by omega)  I J _ h
    · replace h := h_iteF c h
      refine a_aload_n dX11_readStatement_16 rfl rfl ?_
      refine a_ldc_wS (i := 5) lit_11_275 kdM_len dX11_readStatement_17 ?_
      obtain ⟨q2, cq2, h⟩ := h_bindS h
      refine a_callV1 [] yy_X11_isWord ml_11_212 km_0 rfl (sM_isWord _ (by omega) 5 (by decide) I J q2 cq2) rfl rfl (Nat.le_of_ble_eq_true rfl) dX11_readStatement_20 ?_
      refine a_if_eq (tgt := 34) dX11_readStatement_23 (by decide) (fun c => ?_) (fun c => ?_)
      · replace h := h_iteT c h
        exact sM_readStatement_34 rec Dr hrec (d0 + 1) (by omega)  I J _ h
      · replace h := h_iteF c h
        refine a_aload_n dX11_readStatement_26 rfl rfl ?_
        refine b_getI hK_11 km_0 (i := 25) rfl fl_11_296 rfl dX11_readStatement_27 ?_
        refine a_iconst dX11_readStatement_30 ic_3 ?_
        refine a_icmp_eq (tgt := 52) dX11_readStatement_31 (by decide) (fun c => ?_) (fun c => ?_)
        · replace h := h_iteT c h
          exact sM_readStatement_52 rec Dr hrec (d0 + 1) (by omega)  I J _ h
        · replace h := h_iteF c h
          exact sM_readStatement_34 rec Dr hrec (d0 + 1) (by omega)  I J _ h
/-! CoinLoopsModel.readBody()I -/
theorem dX11_readBody_0 : decode cX11_readBody 0 = .ok (.aload_n 0, 1) := by decide +kernel
theorem dX11_readBody_1 : decode cX11_readBody 1 = .ok (.bipush 123, 2) := by decide +kernel
theorem dX11_readBody_3 : decode cX11_readBody 3 = .ok (.invokevirtual 219, 3) := by decide +kernel
theorem dX11_readBody_6 : decode cX11_readBody 6 = .ok (.ifCond .eq 12, 3) := by decide +kernel
theorem dX11_readBody_9 : decode cX11_readBody 9 = .ok (.aload_n 0, 1) := by decide +kernel
theorem dX11_readBody_10 : decode cX11_readBody 10 = .ok (.getfield 281, 3) := by decide +kernel
theorem dX11_readBody_13 : decode cX11_readBody 13 = .ok (.bipush 6, 2) := by decide +kernel
theorem dX11_readBody_15 : decode cX11_readBody 15 = .ok (.if_icmp .ne 9, 3) := by decide +kernel
theorem dX11_readBody_18 : decode cX11_readBody 18 = .ok (.aload_n 0, 1) := by decide +kernel
theorem dX11_readBody_19 : decode cX11_readBody 19 = .ok (.invokevirtual 225, 3) := by decide +kernel
theorem dX11_readBody_22 : decode cX11_readBody 22 = .ok (.iconst (-1), 1) := by decide +kernel
theorem dX11_readBody_23 : decode cX11_readBody 23 = .ok (.ireturn, 1) := by decide +kernel
theorem dX11_readBody_24 : decode cX11_readBody 24 = .ok (.aload_n 0, 1) := by decide +kernel
theorem dX11_readBody_25 : decode cX11_readBody 25 = .ok (.dup, 1) := by decide +kernel
theorem dX11_readBody_26 : decode cX11_readBody 26 = .ok (.getfield 281, 3) := by decide +kernel
theorem dX11_readBody_29 : decode cX11_readBody 29 = .ok (.iconst 1, 1) := by decide +kernel
theorem dX11_readBody_30 : decode cX11_readBody 30 = .ok (.iadd, 1) := by decide +kernel
theorem dX11_readBody_31 : decode cX11_readBody 31 = .ok (.putfield 281, 3) := by decide +kernel
theorem dX11_readBody_34 : decode cX11_readBody 34 = .ok (.aload_n 0, 1) := by decide +kernel
theorem dX11_readBody_35 : decode cX11_readBody 35 = .ok (.invokevirtual 216, 3) := by decide +kernel
theorem dX11_readBody_38 : decode cX11_readBody 38 = .ok (.iconst (-1), 1) := by decide +kernel
theorem dX11_readBody_39 : decode cX11_readBody 39 = .ok (.istore_n 1, 1) := by decide +kernel
theorem dX11_readBody_40 : decode cX11_readBody 40 = .ok (.aload_n 0, 1) := by decide +kernel
theorem dX11_readBody_41 : decode cX11_readBody 41 = .ok (.bipush 125, 2) := by decide +kernel
theorem dX11_readBody_43 : decode cX11_readBody 43 = .ok (.invokevirtual 219, 3) := by decide +kernel
theorem dX11_readBody_46 : decode cX11_readBody 46 = .ok (.ifCond .ne 44, 3) := by decide +kernel
theorem dX11_readBody_49 : decode cX11_readBody 49 = .ok (.aload_n 0, 1) := by decide +kernel
theorem dX11_readBody_50 : decode cX11_readBody 50 = .ok (.invokevirtual 284, 3) := by decide +kernel
theorem dX11_readBody_53 : decode cX11_readBody 53 = .ok (.istore_n 1, 1) := by decide +kernel
theorem dX11_readBody_54 : decode cX11_readBody 54 = .ok (.iload_n 1, 1) := by decide +kernel
theorem dX11_readBody_55 : decode cX11_readBody 55 = .ok (.istore_n 2, 1) := by decide +kernel
theorem dX11_readBody_56 : decode cX11_readBody 56 = .ok (.aload_n 0, 1) := by decide +kernel
theorem dX11_readBody_57 : decode cX11_readBody 57 = .ok (.getfield 200, 3) := by decide +kernel
theorem dX11_readBody_60 : decode cX11_readBody 60 = .ok (.iconst (-1), 1) := by decide +kernel
theorem dX11_readBody_61 : decode cX11_readBody 61 = .ok (.if_icmp .ne 29, 3) := by decide +kernel
theorem dX11_readBody_64 : decode cX11_readBody 64 = .ok (.aload_n 0, 1) := by decide +kernel
theorem dX11_readBody_65 : decode cX11_readBody 65 = .ok (.bipush 59, 2) := by decide +kernel
theorem dX11_readBody_67 : decode cX11_readBody 67 = .ok (.invokevirtual 222, 3) := by decide +kernel
theorem dX11_readBody_70 : decode cX11_readBody 70 = .ok (.ifCond .eq 20, 3) := by decide +kernel
theorem dX11_readBody_73 : decode cX11_readBody 73 = .ok (.aload_n 0, 1) := by decide +kernel
theorem dX11_readBody_74 : decode cX11_readBody 74 = .ok (.invokevirtual 284, 3) := by decide +kernel
theorem dX11_readBody_77 : decode cX11_readBody 77 = .ok (.istore_n 3, 1) := by decide +kernel
theorem dX11_readBody_78 : decode cX11_readBody 78 = .ok (.aload_n 0, 1) := by decide +kernel
theorem dX11_readBody_79 : decode cX11_readBody 79 = .ok (.getfield 53, 3) := by decide +kernel
theorem dX11_readBody_82 : decode cX11_readBody 82 = .ok (.iload_n 2, 1) := by decide +kernel
theorem dX11_readBody_83 : decode cX11_readBody 83 = .ok (.iload_n 3, 1) := by decide +kernel
theorem dX11_readBody_84 : decode cX11_readBody 84 = .ok (.iastore, 1) := by decide +kernel
theorem dX11_readBody_85 : decode cX11_readBody 85 = .ok (.iload_n 3, 1) := by decide +kernel
theorem dX11_readBody_86 : decode cX11_readBody 86 = .ok (.istore_n 2, 1) := by decide +kernel
theorem dX11_readBody_87 : decode cX11_readBody 87 = .ok (.goto (-31), 3) := by decide +kernel
theorem dX11_readBody_90 : decode cX11_readBody 90 = .ok (.aload_n 0, 1) := by decide +kernel
theorem dX11_readBody_91 : decode cX11_readBody 91 = .ok (.bipush 125, 2) := by decide +kernel
theorem dX11_readBody_93 : decode cX11_readBody 93 = .ok (.invokevirtual 287, 3) := by decide +kernel
theorem dX11_readBody_96 : decode cX11_readBody 96 = .ok (.aload_n 0, 1) := by decide +kernel
theorem dX11_readBody_97 : decode cX11_readBody 97 = .ok (.dup, 1) := by decide +kernel
theorem dX11_readBody_98 : decode cX11_readBody 98 = .ok (.getfield 281, 3) := by decide +kernel
theorem dX11_readBody_101 : decode cX11_readBody 101 = .ok (.iconst 1, 1) := by decide +kernel
theorem dX11_readBody_102 : decode cX11_readBody 102 = .ok (.isub, 1) := by decide +kernel
theorem dX11_readBody_103 : decode cX11_readBody 103 = .ok (.putfield 281, 3) := by decide +kernel
theorem dX11_readBody_106 : decode cX11_readBody 106 = .ok (.iload_n 1, 1) := by decide +kernel
theorem dX11_readBody_107 : decode cX11_readBody 107 = .ok (.ireturn, 1) := by decide +kernel
def mM_readBody_90 (rec : hI → Option (Int32 × hI))  (v1 : Int32) (I : hI) : Option (Int32 × hI) :=
  (mM_must (125 : Int32) I).bind fun q1 =>
  h_let (h_u q1 0 30 ((q1 0 30) - (1 : Int32))) fun I2 =>
  some (v1, I2)
set_option maxHeartbeats 4000000 in
theorem sM_readBody_90 (rec : hI → Option (Int32 × hI)) (Dr : Nat) (hrec : ∀ d, Dr ≤ d → ∀  (I : hI) (J : hJ) (q : Int32 × hI), rec I = some q → HMet hFT yX11_readBody cX11_readBody 4 (some .int) kdM d [.ref 0] (I, J, RMm) (some (.int q.1)) (q.2, J, RMm)) (d : Nat) (hd : (Dr + 14) + 1 ≤ d) (v1 : Int32) (I : hI) (J : hJ) (q : Int32 × hI) (h : mM_readBody_90 rec v1 I = some q) : AW hFT cX11_readBody 4 (some .int) RX11 kdM d [(0, .ref 0), (1, .int v1)] 90 [] (I, J, RMm) (some (.int q.1)) (q.2, J, RMm) := by
  obtain ⟨d0, rfl, hd0⟩ := h_mono hd
  unfold mM_readBody_90 at h
  refine a_aload_n dX11_readBody_90 rfl rfl ?_
  refine a_bipush dX11_readBody_91 bp_125 ?_
  obtain ⟨q1, cq1, h⟩ := h_bindS h
  refine a_callV0 [] yy_X11_must ml_11_287 km_0 rfl (sM_must _ (by omega) (125 : Int32) I J q1 cq1) rfl rfl (Nat.le_of_ble_eq_true rfl) dX11_readBody_93 ?_
  refine a_aload_n dX11_readBody_96 rfl rfl ?_
  refine a_dup dX11_readBody_97 rfl ?_
  refine b_getI hK_11 km_0 (i := 30) rfl fl_11_281 rfl dX11_readBody_98 ?_
  refine a_iconst dX11_readBody_101 ic_1 ?_
  refine a_isub dX11_readBody_102 ?_
  refine b_putI hK_11 km_0 (i := 30) rfl fl_11_281 rfl rfl (h_NI _) dX11_readBody_103 ?_
  obtain ⟨I2, eI2, h⟩ := h_letS h
  refine a_memI eI2 ?_
  refine a_iload_n dX11_readBody_106 rfl rfl ?_
  cases h
  exact a_iret dX11_readBody_107
def mM_readBody_B56 (rec : hI → Option (Int32 × hI)) (k56 : Int32 → Int32 → hI → Option (Int32 × hI)) (v1 : Int32) (v2 : Int32) (I : hI) : Option (Int32 × hI) :=
  if (I 0 5) = (-1 : Int32) then
    ((mM_takes (59 : Int32) I).bind fun q1 =>
    if q1.1 = 0 then
      mM_readBody_90 rec v1 q1.2
    else
      ((mM_readStatement rec q1.2).bind fun q2 =>
      h_let q2.1 fun v3x2 =>
      h_g (h_in v2 48) <|
      h_let (h_u q2.2 15 v2.toNatClampNeg v3x2) fun I5 =>
      k56 v1 v3x2 I5))
  else
    mM_readBody_90 rec v1 I
set_option maxHeartbeats 4000000 in
theorem sM_readBody_B56 (rec : hI → Option (Int32 × hI)) (Dr : Nat) (hrec : ∀ d, Dr ≤ d → ∀  (I : hI) (J : hJ) (q : Int32 × hI), rec I = some q → HMet hFT yX11_readBody cX11_readBody 4 (some .int) kdM d [.ref 0] (I, J, RMm) (some (.int q.1)) (q.2, J, RMm)) (d : Nat) (hd : (Dr + 14) + 1 ≤ d) (k56 : Int32 → Int32 → hI → Option (Int32 × hI)) (hk56 : ∀ (v1 : Int32) (v2 : Int32) (I : hI) (J : hJ) (q : Int32 × hI), k56 v1 v2 I = some q → AW hFT cX11_readBody 4 (some .int) RX11 kdM d [(0, .ref 0), (1, .int v1), (2, .int v2)] 56 [] (I, J, RMm) (some (.int q.1)) (q.2, J, RMm)) (v1 : Int32) (v2 : Int32) (I : hI) (J : hJ) (q : Int32 × hI) (h : mM_readBody_B56 rec k56 v1 v2 I = some q) : AW hFT cX11_readBody 4 (some .int) RX11 kdM d [(0, .ref 0), (1, .int v1), (2, .int v2)] 56 [] (I, J, RMm) (some (.int q.1)) (q.2, J, RMm) := by
  obtain ⟨d0, rfl, hd0⟩ := h_mono hd
  unfold mM_readBody_B56 at h
  refine a_aload_n dX11_readBody_56 rfl rfl ?_
  refine b_getI hK_11 km_0 (i := 5) rfl fl_11_200 rfl dX11_readBody_57 ?_
  refine a_iconst dX11_readBody_60 ic_m1 ?_
  refine a_icmp_ne (tgt := 90) dX11_readBody_61 (by decide) (fun c => ?_) (fun c => ?_)
  · replace h := h_iteF c h
    refine a_sub (lv' := [(0, .ref 0), (1, .int v1)]) [0, 1] rfl ?_
    exact sM_readBody_90 rec Dr hrec (d0 + 1) (by omega) v1 I J _ h
  · replace h := h_iteT c h
    refine a_aload_n dX11_readBody_64 rfl rfl ?_
    refine a_bipush dX11_readBody_65 bp_59 ?_
    obtain ⟨q1, cq1, h⟩ := h_bindS h
    refine a_callV1 [] yy_X11_takes ml_11_222 km_0 rfl (sM_takes _ (by omega) (59 : Int32) I J q1 cq1) rfl rfl (Nat.le_of_ble_eq_true rfl) dX11_readBody_67 ?_
    refine a_if_eq (tgt := 90) dX11_readBody_70 (by decide) (fun c => ?_) (fun c => ?_)
    · replace h := h_iteT c h
      refine a_sub (lv' := [(0, .ref 0), (1, .int v1)]) [0, 1] rfl ?_
      exact sM_readBody_90 rec Dr hrec (d0 + 1) (by omega) v1 q1.2 J _ h
    · replace h := h_iteF c h
      refine a_aload_n dX11_readBody_73 rfl rfl ?_
      obtain ⟨q2, cq2, h⟩ := h_bindS h
      refine a_callV1 [] yy_X11_readStatement ml_11_284 km_0 rfl (sM_readStatement rec Dr hrec _ (by omega)  q1.2 J q2 cq2) rfl rfl (Nat.le_of_ble_eq_true rfl) dX11_readBody_74 ?_
      obtain ⟨v3x2, ev3x2, h⟩ := h_letS h
      refine a_topI ev3x2 ?_
      refine a_istore_n (lv' := [(3, .int v3x2), (0, .ref 0), (1, .int v1), (2, .int v2)]) dX11_readBody_77 rfl (by decide) rfl ?_
      refine a_aload_n dX11_readBody_78 rfl rfl ?_
      refine b_getR hK_11 km_0 (i := 23) rfl fl_11_53 rfl rmm_23 dX11_readBody_79 ?_
      refine a_iload_n dX11_readBody_82 rfl rfl ?_
      refine a_iload_n dX11_readBody_83 rfl rfl ?_
      obtain ⟨g4, h⟩ := h_gS h
      refine b_iastore km_15 (h_inV g4) dX11_readBody_84 ?_
      obtain ⟨I5, eI5, h⟩ := h_letS h
      refine a_memI eI5 ?_
      refine a_iload_n dX11_readBody_85 rfl rfl ?_
      refine a_istore_n (lv' := [(2, .int v3x2), (3, .int v3x2), (0, .ref 0), (1, .int v1)]) dX11_readBody_86 rfl (by decide) rfl ?_
      refine a_goto (tgt := 56) dX11_readBody_87 (by decide) ?_
      refine a_sub (lv' := [(0, .ref 0), (1, .int v1), (2, .int v3x2)]) [2, 3, 0] rfl ?_
      exact hk56 v1 v3x2 I5 J _ h
def mM_readBody_L56 (rec : hI → Option (Int32 × hI))  : Nat → Int32 → Int32 → hI → Option (Int32 × hI)
  | 0 => fun _ _ _ => none
  | n + 1 => mM_readBody_B56 rec (mM_readBody_L56 rec n)
theorem sM_readBody_L56 (rec : hI → Option (Int32 × hI)) (Dr : Nat) (hrec : ∀ d, Dr ≤ d → ∀  (I : hI) (J : hJ) (q : Int32 × hI), rec I = some q → HMet hFT yX11_readBody cX11_readBody 4 (some .int) kdM d [.ref 0] (I, J, RMm) (some (.int q.1)) (q.2, J, RMm)) (d : Nat) (hd : (Dr + 14) + 1 ≤ d) : ∀ (n : Nat) (v1 : Int32) (v2 : Int32) (I : hI) (J : hJ) (q : Int32 × hI) (h : mM_readBody_L56 rec n v1 v2 I = some q), AW hFT cX11_readBody 4 (some .int) RX11 kdM d [(0, .ref 0), (1, .int v1), (2, .int v2)] 56 [] (I, J, RMm) (some (.int q.1)) (q.2, J, RMm)
  | 0, _, _, _, _, q, h => by cases h
  | n + 1, v1, v2, I, J, q, h => sM_readBody_B56 rec Dr hrec d hd (mM_readBody_L56 rec n) (sM_readBody_L56 rec Dr hrec d hd n) v1 v2 I J q h
def mM_readBody_18 (rec : hI → Option (Int32 × hI))   (I : hI) : Option (Int32 × hI) :=
  h_let (mM_bad I) fun q1 =>
  some ((-1 : Int32), q1)
set_option maxHeartbeats 4000000 in
theorem sM_readBody_18 (rec : hI → Option (Int32 × hI)) (Dr : Nat) (hrec : ∀ d, Dr ≤ d → ∀  (I : hI) (J : hJ) (q : Int32 × hI), rec I = some q → HMet hFT yX11_readBody cX11_readBody 4 (some .int) kdM d [.ref 0] (I, J, RMm) (some (.int q.1)) (q.2, J, RMm)) (d : Nat) (hd : (Dr + 14) + 1 ≤ d)  (I : hI) (J : hJ) (q : Int32 × hI) (h : mM_readBody_18 rec I = some q) : AW hFT cX11_readBody 4 (some .int) RX11 kdM d [(0, .ref 0)] 18 [] (I, J, RMm) (some (.int q.1)) (q.2, J, RMm) := by
  obtain ⟨d0, rfl, hd0⟩ := h_mono hd
  unfold mM_readBody_18 at h
  refine a_aload_n dX11_readBody_18 rfl rfl ?_
  obtain ⟨q1, cq1, h⟩ := h_letS h
  refine a_callV0 [] yy_X11_bad ml_11_225 km_0 rfl (sM_bad _ (by omega)  I J q1 cq1) rfl rfl (Nat.le_of_ble_eq_true rfl) dX11_readBody_19 ?_
  refine a_iconst dX11_readBody_22 ic_m1 ?_
  cases h
  exact a_iret dX11_readBody_23
def mM_readBody_B (rec : hI → Option (Int32 × hI))   (I : hI) : Option (Int32 × hI) :=
  (mM_isSign (123 : Int32) I).bind fun q1 =>
  if q1 = 0 then
    mM_readBody_18 rec I
  else
    (if (I 0 30) = (6 : Int32) then
      mM_readBody_18 rec I
    else
      (h_let (h_u I 0 30 ((I 0 30) + (1 : Int32))) fun I2 =>
      (mM_next I2).bind fun q3 =>
      (mM_isSign (125 : Int32) q3).bind fun q4 =>
      if q4 = 0 then
        ((mM_readStatement rec q3).bind fun q5 =>
        h_let q5.1 fun v1x5 =>
        mM_readBody_L56 rec hF v1x5 v1x5 q5.2)
      else
        mM_readBody_90 rec (-1 : Int32) q3))
set_option maxHeartbeats 4000000 in
theorem sM_readBody_B (rec : hI → Option (Int32 × hI)) (Dr : Nat) (hrec : ∀ d, Dr ≤ d → ∀  (I : hI) (J : hJ) (q : Int32 × hI), rec I = some q → HMet hFT yX11_readBody cX11_readBody 4 (some .int) kdM d [.ref 0] (I, J, RMm) (some (.int q.1)) (q.2, J, RMm)) (d : Nat) (hd : (Dr + 14) + 1 ≤ d)  (I : hI) (J : hJ) (q : Int32 × hI) (h : mM_readBody_B rec I = some q) : HMet hFT yX11_readBody cX11_readBody 4 (some .int) kdM d [.ref 0] (I, J, RMm) (some (.int q.1)) (q.2, J, RMm) := by
  obtain ⟨d0, rfl, hd0⟩ := h_mono hd
  refine HMet.of (by decide) (Nat.le_of_ble_eq_true rfl) ?_
  show AW hFT cX11_readBody 4 (some .int) RX11 kdM (d0 + 1) [(0, .ref 0)] 0 [] (I, J, RMm) (some (.int q.1)) (q.2, J, RMm)
  unfold mM_readBody_B at h
  refine a_aload_n dX11_readBody_0 rfl rfl ?_
  refine a_bipush dX11_readBody_1 bp_123 ?_
  obtain ⟨q1, cq1, h⟩ := h_bindS h
  refine a_callV1 [] yy_X11_isSign ml_11_219 km_0 rfl (sM_isSign _ (by omega) (123 : Int32) I J q1 cq1) rfl rfl (Nat.le_of_ble_eq_true rfl) dX11_readBody_3 ?_
  refine a_if_eq (tgt := 18) dX11_readBody_6 (by decide) (fun c => ?_) (fun c => ?_)
  · replace h := h_iteT c h
    exact sM_readBody_18 rec Dr hrec (d0 + 1) (by omega)  I J _ h
  · replace h := h_iteF c h
    refine a_aload_n dX11_readBody_9 rfl rfl ?_
    refine b_getI hK_11 km_0 (i := 30) rfl fl_11_281 rfl dX11_readBody_10 ?_
    refine a_bipush dX11_readBody_13 bp_6 ?_
    refine a_icmp_ne (tgt := 24) dX11_readBody_15 (by decide) (fun c => ?_) (fun c => ?_)
    · replace h := h_iteF c h
      refine a_aload_n dX11_readBody_24 rfl rfl ?_
      refine a_dup dX11_readBody_25 rfl ?_
      refine b_getI hK_11 km_0 (i := 30) rfl fl_11_281 rfl dX11_readBody_26 ?_
      refine a_iconst dX11_readBody_29 ic_1 ?_
      refine a_iadd dX11_readBody_30 ?_
      refine b_putI hK_11 km_0 (i := 30) rfl fl_11_281 rfl rfl (h_NI _) dX11_readBody_31 ?_
      obtain ⟨I2, eI2, h⟩ := h_letS h
      refine a_memI eI2 ?_
      refine a_aload_n dX11_readBody_34 rfl rfl ?_
      obtain ⟨q3, cq3, h⟩ := h_bindS h
      refine a_callV0 [] yy_X11_next ml_11_216 km_0 rfl (sM_next _ (by omega)  I2 J q3 cq3) rfl rfl (Nat.le_of_ble_eq_true rfl) dX11_readBody_35 ?_
      refine a_iconst dX11_readBody_38 ic_m1 ?_
      refine a_istore_n (lv' := [(1, .int (-1 : Int32)), (0, .ref 0)]) dX11_readBody_39 rfl (by decide) rfl ?_
      refine a_aload_n dX11_readBody_40 rfl rfl ?_
      refine a_bipush dX11_readBody_41 bp_125 ?_
      obtain ⟨q4, cq4, h⟩ := h_bindS h
      refine a_callV1 [] yy_X11_isSign ml_11_219 km_0 rfl (sM_isSign _ (by omega) (125 : Int32) q3 J q4 cq4) rfl rfl (Nat.le_of_ble_eq_true rfl) dX11_readBody_43 ?_
      refine a_if_ne (tgt := 90) dX11_readBody_46 (by decide) (fun c => ?_) (fun c => ?_)
      · replace h := h_iteF c h
        refine a_sub (lv' := [(0, .ref 0), (1, .int (-1 : Int32))]) [1, 0] rfl ?_
        exact sM_readBody_90 rec Dr hrec (d0 + 1) (by omega) (-1 : Int32) q3 J _ h
      · replace h := h_iteT c h
        refine a_aload_n dX11_readBody_49 rfl rfl ?_
        obtain ⟨q5, cq5, h⟩ := h_bindS h
        refine a_callV1 [] yy_X11_readStatement ml_11_284 km_0 rfl (sM_readStatement rec Dr hrec _ (by omega)  q3 J q5 cq5) rfl rfl (Nat.le_of_ble_eq_true rfl) dX11_readBody_50 ?_
        obtain ⟨v1x5, ev1x5, h⟩ := h_letS h
        refine a_topI ev1x5 ?_
        refine a_istore_n (lv' := [(1, .int v1x5), (0, .ref 0)]) dX11_readBody_53 rfl (by decide) rfl ?_
        refine a_iload_n dX11_readBody_54 rfl rfl ?_
        refine a_istore_n (lv' := [(2, .int v1x5), (1, .int v1x5), (0, .ref 0)]) dX11_readBody_55 rfl (by decide) rfl ?_
        refine a_sub (lv' := [(0, .ref 0), (1, .int v1x5), (2, .int v1x5)]) [2, 1, 0] rfl ?_
        exact sM_readBody_L56 rec Dr hrec (d0 + 1) (by omega) hF v1x5 v1x5 q5.2 J _ h
    · replace h := h_iteT c h
      exact sM_readBody_18 rec Dr hrec (d0 + 1) (by omega)  I J _ h
def mM_readBody : Nat → hI → Option (Int32 × hI)
  | 0 => fun _ => none
  | n + 1 => mM_readBody_B (mM_readBody n)
theorem sM_readBody : ∀ (n d : Nat), 15 * n + 1 ≤ d → ∀  (I : hI) (J : hJ) (q : Int32 × hI), mM_readBody n I = some q → HMet hFT yX11_readBody cX11_readBody 4 (some .int) kdM d [.ref 0] (I, J, RMm) (some (.int q.1)) (q.2, J, RMm)
  | 0, d, hd, _, _, q, h => by cases h
  | n + 1, d, hd, I, J, q, h => sM_readBody_B (mM_readBody n) (15 * n + 1) (fun d hd => sM_readBody n d hd) d (by omega) I J q h
/-! CoinLoopsModel.startsReading(I)V -/
theorem dX11_startsReading_0 : decode cX11_startsReading 0 = .ok (.aload_n 0, 1) := by decide +kernel
theorem dX11_startsReading_1 : decode cX11_startsReading 1 = .ok (.iconst 0, 1) := by decide +kernel
theorem dX11_startsReading_2 : decode cX11_startsReading 2 = .ok (.putfield 171, 3) := by decide +kernel
theorem dX11_startsReading_5 : decode cX11_startsReading 5 = .ok (.aload_n 0, 1) := by decide +kernel
theorem dX11_startsReading_6 : decode cX11_startsReading 6 = .ok (.iconst (-1), 1) := by decide +kernel
theorem dX11_startsReading_7 : decode cX11_startsReading 7 = .ok (.putfield 200, 3) := by decide +kernel
theorem dX11_startsReading_10 : decode cX11_startsReading 10 = .ok (.aload_n 0, 1) := by decide +kernel
theorem dX11_startsReading_11 : decode cX11_startsReading 11 = .ok (.iload_n 1, 1) := by decide +kernel
theorem dX11_startsReading_12 : decode cX11_startsReading 12 = .ok (.putfield 238, 3) := by decide +kernel
theorem dX11_startsReading_15 : decode cX11_startsReading 15 = .ok (.aload_n 0, 1) := by decide +kernel
theorem dX11_startsReading_16 : decode cX11_startsReading 16 = .ok (.iload_n 1, 1) := by decide +kernel
theorem dX11_startsReading_17 : decode cX11_startsReading 17 = .ok (.putfield 245, 3) := by decide +kernel
theorem dX11_startsReading_20 : decode cX11_startsReading 20 = .ok (.aload_n 0, 1) := by decide +kernel
theorem dX11_startsReading_21 : decode cX11_startsReading 21 = .ok (.invokevirtual 216, 3) := by decide +kernel
theorem dX11_startsReading_24 : decode cX11_startsReading 24 = .ok (.return_, 1) := by decide +kernel
def mM_startsReading  (v1 : Int32) (I : hI) : Option (hI) :=
  h_let (h_u I 0 3 (0 : Int32)) fun I1 =>
  h_let (h_u I1 0 5 (-1 : Int32)) fun I2 =>
  h_let (h_u I2 0 11 v1) fun I3 =>
  h_let (h_u I3 0 16 v1) fun I4 =>
  (mM_next I4).bind fun q5 =>
  some q5
set_option maxHeartbeats 4000000 in
theorem sM_startsReading (d : Nat) (hd : 1 + 1 ≤ d) (v1 : Int32) (I : hI) (J : hJ) (q : hI) (h : mM_startsReading v1 I = some q) : HMet hFT yX11_startsReading cX11_startsReading 2 none kdM d [.ref 0, .int v1] (I, J, RMm) none (q, J, RMm) := by
  obtain ⟨d0, rfl, hd0⟩ := h_mono hd
  refine HMet.of (by decide) (Nat.le_of_ble_eq_true rfl) ?_
  show AW hFT cX11_startsReading 2 none RX11 kdM (d0 + 1) [(0, .ref 0), (1, .int v1)] 0 [] (I, J, RMm) none (q, J, RMm)
  unfold mM_startsReading at h
  refine a_aload_n dX11_startsReading_0 rfl rfl ?_
  refine a_iconst dX11_startsReading_1 ic_0 ?_
  refine b_putI hK_11 km_0 (i := 3) rfl fl_11_171 rfl rfl (h_NI _) dX11_startsReading_2 ?_
  obtain ⟨I1, eI1, h⟩ := h_letS h
  refine a_memI eI1 ?_
  refine a_aload_n dX11_startsReading_5 rfl rfl ?_
  refine a_iconst dX11_startsReading_6 ic_m1 ?_
  refine b_putI hK_11 km_0 (i := 5) rfl fl_11_200 rfl rfl (h_NI _) dX11_startsReading_7 ?_
  obtain ⟨I2, eI2, h⟩ := h_letS h
  refine a_memI eI2 ?_
  refine a_aload_n dX11_startsReading_10 rfl rfl ?_
  refine a_iload_n dX11_startsReading_11 rfl rfl ?_
  refine b_putI hK_11 km_0 (i := 11) rfl fl_11_238 rfl rfl (h_NI _) dX11_startsReading_12 ?_
  obtain ⟨I3, eI3, h⟩ := h_letS h
  refine a_memI eI3 ?_
  refine a_aload_n dX11_startsReading_15 rfl rfl ?_
  refine a_iload_n dX11_startsReading_16 rfl rfl ?_
  refine b_putI hK_11 km_0 (i := 16) rfl fl_11_245 rfl rfl (h_NI _) dX11_startsReading_17 ?_
  obtain ⟨I4, eI4, h⟩ := h_letS h
  refine a_memI eI4 ?_
  refine a_aload_n dX11_startsReading_20 rfl rfl ?_
  obtain ⟨q5, cq5, h⟩ := h_bindS h
  refine a_callV0 [] yy_X11_next ml_11_216 km_0 rfl (sM_next _ (by omega)  I4 J q5 cq5) rfl rfl (Nat.le_of_ble_eq_true rfl) dX11_startsReading_21 ?_
  cases h
  exact a_vret dX11_startsReading_24
/-! CoinLoopsModel.readLoop()I -/
theorem dX11_readLoop_0 : decode cX11_readLoop 0 = .ok (.aload_n 0, 1) := by decide +kernel
theorem dX11_readLoop_1 : decode cX11_readLoop 1 = .ok (.iconst 0, 1) := by decide +kernel
theorem dX11_readLoop_2 : decode cX11_readLoop 2 = .ok (.invokevirtual 314, 3) := by decide +kernel
theorem dX11_readLoop_5 : decode cX11_readLoop 5 = .ok (.aload_n 0, 1) := by decide +kernel
theorem dX11_readLoop_6 : decode cX11_readLoop 6 = .ok (.iconst 0, 1) := by decide +kernel
theorem dX11_readLoop_7 : decode cX11_readLoop 7 = .ok (.putfield 293, 3) := by decide +kernel
theorem dX11_readLoop_10 : decode cX11_readLoop 10 = .ok (.aload_n 0, 1) := by decide +kernel
theorem dX11_readLoop_11 : decode cX11_readLoop 11 = .ok (.iconst 0, 1) := by decide +kernel
theorem dX11_readLoop_12 : decode cX11_readLoop 12 = .ok (.putfield 296, 3) := by decide +kernel
theorem dX11_readLoop_15 : decode cX11_readLoop 15 = .ok (.aload_n 0, 1) := by decide +kernel
theorem dX11_readLoop_16 : decode cX11_readLoop 16 = .ok (.iconst 0, 1) := by decide +kernel
theorem dX11_readLoop_17 : decode cX11_readLoop 17 = .ok (.putfield 281, 3) := by decide +kernel
theorem dX11_readLoop_20 : decode cX11_readLoop 20 = .ok (.aload_n 0, 1) := by decide +kernel
theorem dX11_readLoop_21 : decode cX11_readLoop 21 = .ok (.iconst 0, 1) := by decide +kernel
theorem dX11_readLoop_22 : decode cX11_readLoop 22 = .ok (.putfield 299, 3) := by decide +kernel
theorem dX11_readLoop_25 : decode cX11_readLoop 25 = .ok (.aload_n 0, 1) := by decide +kernel
theorem dX11_readLoop_26 : decode cX11_readLoop 26 = .ok (.ldc 231, 2) := by decide +kernel
theorem dX11_readLoop_28 : decode cX11_readLoop 28 = .ok (.invokevirtual 233, 3) := by decide +kernel
theorem dX11_readLoop_31 : decode cX11_readLoop 31 = .ok (.ifCond .ne 7, 3) := by decide +kernel
theorem dX11_readLoop_34 : decode cX11_readLoop 34 = .ok (.aload_n 0, 1) := by decide +kernel
theorem dX11_readLoop_35 : decode cX11_readLoop 35 = .ok (.invokevirtual 225, 3) := by decide +kernel
theorem dX11_readLoop_38 : decode cX11_readLoop 38 = .ok (.aload_n 0, 1) := by decide +kernel
theorem dX11_readLoop_39 : decode cX11_readLoop 39 = .ok (.aload_n 0, 1) := by decide +kernel
theorem dX11_readLoop_40 : decode cX11_readLoop 40 = .ok (.iconst 0, 1) := by decide +kernel
theorem dX11_readLoop_41 : decode cX11_readLoop 41 = .ok (.bipush 9, 2) := by decide +kernel
theorem dX11_readLoop_43 : decode cX11_readLoop 43 = .ok (.invokevirtual 228, 3) := by decide +kernel
theorem dX11_readLoop_46 : decode cX11_readLoop 46 = .ok (.iconst 1, 1) := by decide +kernel
theorem dX11_readLoop_47 : decode cX11_readLoop 47 = .ok (.iadd, 1) := by decide +kernel
theorem dX11_readLoop_48 : decode cX11_readLoop 48 = .ok (.putfield 317, 3) := by decide +kernel
theorem dX11_readLoop_51 : decode cX11_readLoop 51 = .ok (.aload_n 0, 1) := by decide +kernel
theorem dX11_readLoop_52 : decode cX11_readLoop 52 = .ok (.bipush 59, 2) := by decide +kernel
theorem dX11_readLoop_54 : decode cX11_readLoop 54 = .ok (.invokevirtual 287, 3) := by decide +kernel
theorem dX11_readLoop_57 : decode cX11_readLoop 57 = .ok (.aload_n 0, 1) := by decide +kernel
theorem dX11_readLoop_58 : decode cX11_readLoop 58 = .ok (.iconst 1, 1) := by decide +kernel
theorem dX11_readLoop_59 : decode cX11_readLoop 59 = .ok (.putfield 320, 3) := by decide +kernel
theorem dX11_readLoop_62 : decode cX11_readLoop 62 = .ok (.aload_n 0, 1) := by decide +kernel
theorem dX11_readLoop_63 : decode cX11_readLoop 63 = .ok (.ldc 236, 2) := by decide +kernel
theorem dX11_readLoop_65 : decode cX11_readLoop 65 = .ok (.invokevirtual 233, 3) := by decide +kernel
theorem dX11_readLoop_68 : decode cX11_readLoop 68 = .ok (.ifCond .eq 34, 3) := by decide +kernel
theorem dX11_readLoop_71 : decode cX11_readLoop 71 = .ok (.aload_n 0, 1) := by decide +kernel
theorem dX11_readLoop_72 : decode cX11_readLoop 72 = .ok (.aload_n 0, 1) := by decide +kernel
theorem dX11_readLoop_73 : decode cX11_readLoop 73 = .ok (.iconst 0, 1) := by decide +kernel
theorem dX11_readLoop_74 : decode cX11_readLoop 74 = .ok (.bipush 9, 2) := by decide +kernel
theorem dX11_readLoop_76 : decode cX11_readLoop 76 = .ok (.bipush 10, 2) := by decide +kernel
theorem dX11_readLoop_78 : decode cX11_readLoop 78 = .ok (.aload_n 0, 1) := by decide +kernel
theorem dX11_readLoop_79 : decode cX11_readLoop 79 = .ok (.getfield 317, 3) := by decide +kernel
theorem dX11_readLoop_82 : decode cX11_readLoop 82 = .ok (.idiv, 1) := by decide +kernel
theorem dX11_readLoop_83 : decode cX11_readLoop 83 = .ok (.iconst 1, 1) := by decide +kernel
theorem dX11_readLoop_84 : decode cX11_readLoop 84 = .ok (.isub, 1) := by decide +kernel
theorem dX11_readLoop_85 : decode cX11_readLoop 85 = .ok (.invokestatic 194, 3) := by decide +kernel
theorem dX11_readLoop_88 : decode cX11_readLoop 88 = .ok (.invokevirtual 228, 3) := by decide +kernel
theorem dX11_readLoop_91 : decode cX11_readLoop 91 = .ok (.iconst 1, 1) := by decide +kernel
theorem dX11_readLoop_92 : decode cX11_readLoop 92 = .ok (.iadd, 1) := by decide +kernel
theorem dX11_readLoop_93 : decode cX11_readLoop 93 = .ok (.putfield 320, 3) := by decide +kernel
theorem dX11_readLoop_96 : decode cX11_readLoop 96 = .ok (.aload_n 0, 1) := by decide +kernel
theorem dX11_readLoop_97 : decode cX11_readLoop 97 = .ok (.bipush 59, 2) := by decide +kernel
theorem dX11_readLoop_99 : decode cX11_readLoop 99 = .ok (.invokevirtual 287, 3) := by decide +kernel
theorem dX11_readLoop_102 : decode cX11_readLoop 102 = .ok (.aload_n 0, 1) := by decide +kernel
theorem dX11_readLoop_103 : decode cX11_readLoop 103 = .ok (.ldc_w 323, 3) := by decide +kernel
theorem dX11_readLoop_106 : decode cX11_readLoop 106 = .ok (.invokevirtual 233, 3) := by decide +kernel
theorem dX11_readLoop_109 : decode cX11_readLoop 109 = .ok (.ifCond .ne 7, 3) := by decide +kernel
theorem dX11_readLoop_112 : decode cX11_readLoop 112 = .ok (.aload_n 0, 1) := by decide +kernel
theorem dX11_readLoop_113 : decode cX11_readLoop 113 = .ok (.invokevirtual 225, 3) := by decide +kernel
theorem dX11_readLoop_116 : decode cX11_readLoop 116 = .ok (.aload_n 0, 1) := by decide +kernel
theorem dX11_readLoop_117 : decode cX11_readLoop 117 = .ok (.getfield 200, 3) := by decide +kernel
theorem dX11_readLoop_120 : decode cX11_readLoop 120 = .ok (.iconst (-1), 1) := by decide +kernel
theorem dX11_readLoop_121 : decode cX11_readLoop 121 = .ok (.if_icmp .ne 8, 3) := by decide +kernel
theorem dX11_readLoop_124 : decode cX11_readLoop 124 = .ok (.aload_n 0, 1) := by decide +kernel
theorem dX11_readLoop_125 : decode cX11_readLoop 125 = .ok (.iconst (-1), 1) := by decide +kernel
theorem dX11_readLoop_126 : decode cX11_readLoop 126 = .ok (.invokevirtual 305, 3) := by decide +kernel
theorem dX11_readLoop_129 : decode cX11_readLoop 129 = .ok (.aload_n 0, 1) := by decide +kernel
theorem dX11_readLoop_130 : decode cX11_readLoop 130 = .ok (.aload_n 0, 1) := by decide +kernel
theorem dX11_readLoop_131 : decode cX11_readLoop 131 = .ok (.getfield 245, 3) := by decide +kernel
theorem dX11_readLoop_134 : decode cX11_readLoop 134 = .ok (.putfield 325, 3) := by decide +kernel
theorem dX11_readLoop_137 : decode cX11_readLoop 137 = .ok (.aload_n 0, 1) := by decide +kernel
theorem dX11_readLoop_138 : decode cX11_readLoop 138 = .ok (.aload_n 0, 1) := by decide +kernel
theorem dX11_readLoop_139 : decode cX11_readLoop 139 = .ok (.getfield 200, 3) := by decide +kernel
theorem dX11_readLoop_142 : decode cX11_readLoop 142 = .ok (.iconst (-1), 1) := by decide +kernel
theorem dX11_readLoop_143 : decode cX11_readLoop 143 = .ok (.if_icmp .ne 10, 3) := by decide +kernel
theorem dX11_readLoop_146 : decode cX11_readLoop 146 = .ok (.aload_n 0, 1) := by decide +kernel
theorem dX11_readLoop_147 : decode cX11_readLoop 147 = .ok (.invokevirtual 308, 3) := by decide +kernel
theorem dX11_readLoop_150 : decode cX11_readLoop 150 = .ok (.goto 4, 3) := by decide +kernel
theorem dX11_readLoop_153 : decode cX11_readLoop 153 = .ok (.iconst (-1), 1) := by decide +kernel
theorem dX11_readLoop_154 : decode cX11_readLoop 154 = .ok (.putfield 328, 3) := by decide +kernel
theorem dX11_readLoop_157 : decode cX11_readLoop 157 = .ok (.aload_n 0, 1) := by decide +kernel
theorem dX11_readLoop_158 : decode cX11_readLoop 158 = .ok (.invokevirtual 331, 3) := by decide +kernel
theorem dX11_readLoop_161 : decode cX11_readLoop 161 = .ok (.aload_n 0, 1) := by decide +kernel
theorem dX11_readLoop_162 : decode cX11_readLoop 162 = .ok (.getfield 200, 3) := by decide +kernel
theorem dX11_readLoop_165 : decode cX11_readLoop 165 = .ok (.ireturn, 1) := by decide +kernel
def mM_readLoop_154  (vs1 : Int32) (I : hI) : Option (Int32 × hI) :=
  h_let (h_u I 0 29 vs1) fun I1 =>
  h_let (mM_over I1) fun q2 =>
  some ((q2 0 5), q2)
set_option maxHeartbeats 4000000 in
theorem sM_readLoop_154 (d : Nat) (hd : 151 + 1 ≤ d) (vs1 : Int32) (I : hI) (J : hJ) (q : Int32 × hI) (h : mM_readLoop_154 vs1 I = some q) : AW hFT cX11_readLoop 1 (some .int) RX11 kdM d [(0, .ref 0)] 154 [.int vs1, .ref 0] (I, J, RMm) (some (.int q.1)) (q.2, J, RMm) := by
  obtain ⟨d0, rfl, hd0⟩ := h_mono hd
  unfold mM_readLoop_154 at h
  refine b_putI hK_11 km_0 (i := 29) rfl fl_11_328 rfl rfl (h_NI _) dX11_readLoop_154 ?_
  obtain ⟨I1, eI1, h⟩ := h_letS h
  refine a_memI eI1 ?_
  refine a_aload_n dX11_readLoop_157 rfl rfl ?_
  obtain ⟨q2, cq2, h⟩ := h_letS h
  refine a_callV0 [] yy_X11_over ml_11_331 km_0 rfl (sM_over _ (by omega)  I1 J q2 cq2) rfl rfl (Nat.le_of_ble_eq_true rfl) dX11_readLoop_158 ?_
  refine a_aload_n dX11_readLoop_161 rfl rfl ?_
  refine b_getI hK_11 km_0 (i := 5) rfl fl_11_200 rfl dX11_readLoop_162 ?_
  cases h
  exact a_iret dX11_readLoop_165
def mM_readLoop_129   (I : hI) : Option (Int32 × hI) :=
  h_let (h_u I 0 28 (I 0 16)) fun I1 =>
  if (I1 0 5) = (-1 : Int32) then
    ((mM_readBody 10 I1).bind fun q2 =>
    mM_readLoop_154 q2.1 q2.2)
  else
    mM_readLoop_154 (-1 : Int32) I1
set_option maxHeartbeats 4000000 in
theorem sM_readLoop_129 (d : Nat) (hd : 151 + 1 ≤ d)  (I : hI) (J : hJ) (q : Int32 × hI) (h : mM_readLoop_129 I = some q) : AW hFT cX11_readLoop 1 (some .int) RX11 kdM d [(0, .ref 0)] 129 [] (I, J, RMm) (some (.int q.1)) (q.2, J, RMm) := by
  obtain ⟨d0, rfl, hd0⟩ := h_mono hd
  unfold mM_readLoop_129 at h
  refine a_aload_n dX11_readLoop_129 rfl rfl ?_
  refine a_aload_n dX11_readLoop_130 rfl rfl ?_
  refine b_getI hK_11 km_0 (i := 16) rfl fl_11_245 rfl dX11_readLoop_131 ?_
  refine b_putI hK_11 km_0 (i := 28) rfl fl_11_325 rfl rfl (h_NI _) dX11_readLoop_134 ?_
  obtain ⟨I1, eI1, h⟩ := h_letS h
  refine a_memI eI1 ?_
  refine a_aload_n dX11_readLoop_137 rfl rfl ?_
  refine a_aload_n dX11_readLoop_138 rfl rfl ?_
  refine b_getI hK_11 km_0 (i := 5) rfl fl_11_200 rfl dX11_readLoop_139 ?_
  refine a_iconst dX11_readLoop_142 ic_m1 ?_
  refine a_icmp_ne (tgt := 153) dX11_readLoop_143 (by decide) (fun c => ?_) (fun c => ?_)
  · replace h := h_iteF c h
    refine a_iconst dX11_readLoop_153 ic_m1 ?_
    exact sM_readLoop_154 (d0 + 1) (by omega) (-1 : Int32) I1 J _ h
  · replace h := h_iteT c h
    refine a_aload_n dX11_readLoop_146 rfl rfl ?_
    obtain ⟨q2, cq2, h⟩ := h_bindS h
    refine a_callV1 [.ref 0] yy_X11_readBody ml_11_308 km_0 rfl (sM_readBody 10 _ (by omega)  I1 J q2 cq2) rfl rfl (Nat.le_of_ble_eq_true rfl) dX11_readLoop_147 ?_
    refine a_goto (tgt := 154) dX11_readLoop_150 (by decide) ?_
    exact sM_readLoop_154 (d0 + 1) (by omega) q2.1 q2.2 J _ h
def mM_readLoop_116   (I : hI) : Option (Int32 × hI) :=
  if (I 0 5) = (-1 : Int32) then
    ((mM_readCond (-1 : Int32) I).bind fun q1 =>
    mM_readLoop_129 q1)
  else
    mM_readLoop_129 I
set_option maxHeartbeats 4000000 in
theorem sM_readLoop_116 (d : Nat) (hd : 151 + 1 ≤ d)  (I : hI) (J : hJ) (q : Int32 × hI) (h : mM_readLoop_116 I = some q) : AW hFT cX11_readLoop 1 (some .int) RX11 kdM d [(0, .ref 0)] 116 [] (I, J, RMm) (some (.int q.1)) (q.2, J, RMm) := by
  obtain ⟨d0, rfl, hd0⟩ := h_mono hd
  unfold mM_readLoop_116 at h
  refine a_aload_n dX11_readLoop_116 rfl rfl ?_
  refine b_getI hK_11 km_0 (i := 5) rfl fl_11_200 rfl dX11_readLoop_117 ?_
  refine a_iconst dX11_readLoop_120 ic_m1 ?_
  refine a_icmp_ne (tgt := 129) dX11_readLoop_121 (by decide) (fun c => ?_) (fun c => ?_)
  · replace h := h_iteF c h
    exact sM_readLoop_129 (d0 + 1) (by omega)  I J _ h
  · replace h := h_iteT c h
    refine a_aload_n dX11_readLoop_124 rfl rfl ?_
    refine a_iconst dX11_readLoop_125 ic_m1 ?_
    obtain ⟨q1, cq1, h⟩ := h_bindS h
    refine a_callV0 [] yy_X11_readCond ml_11_305 km_0 rfl (sM_readCond _ (by omega) (-1 : Int32) I J q1 cq1) rfl rfl (Nat.le_of_ble_eq_true rfl) dX11_readLoop_126 ?_
    exact sM_readLoop_129 (d0 + 1) (by omega)  q1 J _ h
def mM_readLoop_102   (I : hI) : Option (Int32 × hI) :=
  (mM_takesWord 2 I).bind fun q1 =>
  if q1.1 = 0 then
    (h_let (mM_bad q1.2) fun q2 =>
    mM_readLoop_116 q2)
  else
    mM_readLoop_116 q1.2
set_option maxHeartbeats 4000000 in
theorem sM_readLoop_102 (d : Nat) (hd : 151 + 1 ≤ d)  (I : hI) (J : hJ) (q : Int32 × hI) (h : mM_readLoop_102 I = some q) : AW hFT cX11_readLoop 1 (some .int) RX11 kdM d [(0, .ref 0)] 102 [] (I, J, RMm) (some (.int q.1)) (q.2, J, RMm) := by
  obtain ⟨d0, rfl, hd0⟩ := h_mono hd
  unfold mM_readLoop_102 at h
  refine a_aload_n dX11_readLoop_102 rfl rfl ?_
  refine a_ldc_wS (i := 2) lit_11_323 kdM_len dX11_readLoop_103 ?_
  obtain ⟨q1, cq1, h⟩ := h_bindS h
  refine a_callV1 [] yy_X11_takesWord ml_11_233 km_0 rfl (sM_takesWord _ (by omega) 2 (by decide) I J q1 cq1) rfl rfl (Nat.le_of_ble_eq_true rfl) dX11_readLoop_106 ?_
  refine a_if_ne (tgt := 116) dX11_readLoop_109 (by decide) (fun c => ?_) (fun c => ?_)
  · replace h := h_iteF c h
    exact sM_readLoop_116 (d0 + 1) (by omega)  q1.2 J _ h
  · replace h := h_iteT c h
    refine a_aload_n dX11_readLoop_112 rfl rfl ?_
    obtain ⟨q2, cq2, h⟩ := h_letS h
    refine a_callV0 [] yy_X11_bad ml_11_225 km_0 rfl (sM_bad _ (by omega)  q1.2 J q2 cq2) rfl rfl (Nat.le_of_ble_eq_true rfl) dX11_readLoop_113 ?_
    exact sM_readLoop_116 (d0 + 1) (by omega)  q2 J _ h
def mM_readLoop_38   (I : hI) : Option (Int32 × hI) :=
  (mM_takesNumber (0 : Int32) (9 : Int32) I).bind fun q1 =>
  h_let (h_u q1.2 0 26 (q1.1 + (1 : Int32))) fun I2 =>
  (mM_must (59 : Int32) I2).bind fun q3 =>
  h_let (h_u q3 0 27 (1 : Int32)) fun I4 =>
  (mM_takesWord 1 I4).bind fun q5 =>
  if q5.1 = 0 then
    mM_readLoop_102 q5.2
  else
    (h_g (h_nz (q5.2 0 26)) <|
    (mM_takesNumber (0 : Int32) (if (((10 : Int32) / (q5.2 0 26)) - (1 : Int32)) < (9 : Int32) then (((10 : Int32) / (q5.2 0 26)) - (1 : Int32)) else (9 : Int32)) q5.2).bind fun q7 =>
    h_let (h_u q7.2 0 27 (q7.1 + (1 : Int32))) fun I8 =>
    (mM_must (59 : Int32) I8).bind fun q9 =>
    mM_readLoop_102 q9)
set_option maxHeartbeats 4000000 in
theorem sM_readLoop_38 (d : Nat) (hd : 151 + 1 ≤ d)  (I : hI) (J : hJ) (q : Int32 × hI) (h : mM_readLoop_38 I = some q) : AW hFT cX11_readLoop 1 (some .int) RX11 kdM d [(0, .ref 0)] 38 [] (I, J, RMm) (some (.int q.1)) (q.2, J, RMm) := by
  obtain ⟨d0, rfl, hd0⟩ := h_mono hd
  unfold mM_readLoop_38 at h
  refine a_aload_n dX11_readLoop_38 rfl rfl ?_
  refine a_aload_n dX11_readLoop_39 rfl rfl ?_
  refine a_iconst dX11_readLoop_40 ic_0 ?_
  refine a_bipush dX11_readLoop_41 bp_9 ?_
  obtain ⟨q1, cq1, h⟩ := h_bindS h
  refine a_callV1 [.ref 0] yy_X11_takesNumber ml_11_228 km_0 rfl (sM_takesNumber _ (by omega) (0 : Int32) (9 : Int32) I J q1 cq1) rfl rfl (Nat.le_of_ble_eq_true rfl) dX11_readLoop_43 ?_
  refine a_iconst dX11_readLoop_46 ic_1 ?_
  refine a_iadd dX11_readLoop_47 ?_
  refine b_putI hK_11 km_0 (i := 26) rfl fl_11_317 rfl rfl (h_NI _) dX11_readLoop_48 ?_
  obtain ⟨I2, eI2, h⟩ := h_letS h
  refine a_memI eI2 ?_
  refine a_aload_n dX11_readLoop_51 rfl rfl ?_
  refine a_bipush dX11_readLoop_52 bp_59 ?_
  obtain ⟨q3, cq3, h⟩ := h_bindS h
  refine a_callV0 [] yy_X11_must ml_11_287 km_0 rfl (sM_must _ (by omega) (59 : Int32) I2 J q3 cq3) rfl rfl (Nat.le_of_ble_eq_true rfl) dX11_readLoop_54 ?_
  refine a_aload_n dX11_readLoop_57 rfl rfl ?_
  refine a_iconst dX11_readLoop_58 ic_1 ?_
  refine b_putI hK_11 km_0 (i := 27) rfl fl_11_320 rfl rfl (h_NI _) dX11_readLoop_59 ?_
  obtain ⟨I4, eI4, h⟩ := h_letS h
  refine a_memI eI4 ?_
  refine a_aload_n dX11_readLoop_62 rfl rfl ?_
  refine a_ldcS (i := 1) lit_11_236 kdM_len dX11_readLoop_63 ?_
  obtain ⟨q5, cq5, h⟩ := h_bindS h
  refine a_callV1 [] yy_X11_takesWord ml_11_233 km_0 rfl (sM_takesWord _ (by omega) 1 (by decide) I4 J q5 cq5) rfl rfl (Nat.le_of_ble_eq_true rfl) dX11_readLoop_65 ?_
  refine a_if_eq (tgt := 102) dX11_readLoop_68 (by decide) (fun c => ?_) (fun c => ?_)
  · replace h := h_iteT c h
    exact sM_readLoop_102 (d0 + 1) (by omega)  q5.2 J _ h
  · replace h := h_iteF c h
    refine a_aload_n dX11_readLoop_71 rfl rfl ?_
    refine a_aload_n dX11_readLoop_72 rfl rfl ?_
    refine a_iconst dX11_readLoop_73 ic_0 ?_
    refine a_bipush dX11_readLoop_74 bp_9 ?_
    refine a_bipush dX11_readLoop_76 bp_10 ?_
    refine a_aload_n dX11_readLoop_78 rfl rfl ?_
    refine b_getI hK_11 km_0 (i := 26) rfl fl_11_317 rfl dX11_readLoop_79 ?_
    obtain ⟨g6, h⟩ := h_gS h
    refine a_idiv dX11_readLoop_82 (h_nzV g6) ?_
    refine a_iconst dX11_readLoop_83 ic_1 ?_
    refine a_isub dX11_readLoop_84 ?_
    refine a_mmin w_mmin ml_11_194 (Nat.le_of_ble_eq_true rfl) dX11_readLoop_85 ?_
    obtain ⟨q7, cq7, h⟩ := h_bindS h
    refine a_callV1 [.ref 0] yy_X11_takesNumber ml_11_228 km_0 rfl (sM_takesNumber _ (by omega) (0 : Int32) (if (((10 : Int32) / (q5.2 0 26)) - (1 : Int32)) < (9 : Int32) then (((10 : Int32) / (q5.2 0 26)) - (1 : Int32)) else (9 : Int32)) q5.2 J q7 cq7) rfl rfl (Nat.le_of_ble_eq_true rfl) dX11_readLoop_88 ?_
    refine a_iconst dX11_readLoop_91 ic_1 ?_
    refine a_iadd dX11_readLoop_92 ?_
    refine b_putI hK_11 km_0 (i := 27) rfl fl_11_320 rfl rfl (h_NI _) dX11_readLoop_93 ?_
    obtain ⟨I8, eI8, h⟩ := h_letS h
    refine a_memI eI8 ?_
    refine a_aload_n dX11_readLoop_96 rfl rfl ?_
    refine a_bipush dX11_readLoop_97 bp_59 ?_
    obtain ⟨q9, cq9, h⟩ := h_bindS h
    refine a_callV0 [] yy_X11_must ml_11_287 km_0 rfl (sM_must _ (by omega) (59 : Int32) I8 J q9 cq9) rfl rfl (Nat.le_of_ble_eq_true rfl) dX11_readLoop_99 ?_
    exact sM_readLoop_102 (d0 + 1) (by omega)  q9 J _ h
def mM_readLoop   (I : hI) : Option (Int32 × hI) :=
  (mM_startsReading (0 : Int32) I).bind fun q1 =>
  h_let (h_u q1 0 24 (0 : Int32)) fun I2 =>
  h_let (h_u I2 0 25 (0 : Int32)) fun I3 =>
  h_let (h_u I3 0 30 (0 : Int32)) fun I4 =>
  h_let (h_u I4 0 31 (0 : Int32)) fun I5 =>
  (mM_takesWord 0 I5).bind fun q6 =>
  if q6.1 = 0 then
    (h_let (mM_bad q6.2) fun q7 =>
    mM_readLoop_38 q7)
  else
    mM_readLoop_38 q6.2
set_option maxHeartbeats 4000000 in
theorem sM_readLoop (d : Nat) (hd : 151 + 1 ≤ d)  (I : hI) (J : hJ) (q : Int32 × hI) (h : mM_readLoop I = some q) : HMet hFT yX11_readLoop cX11_readLoop 1 (some .int) kdM d [.ref 0] (I, J, RMm) (some (.int q.1)) (q.2, J, RMm) := by
  obtain ⟨d0, rfl, hd0⟩ := h_mono hd
  refine HMet.of (by decide) (Nat.le_of_ble_eq_true rfl) ?_
  show AW hFT cX11_readLoop 1 (some .int) RX11 kdM (d0 + 1) [(0, .ref 0)] 0 [] (I, J, RMm) (some (.int q.1)) (q.2, J, RMm)
  unfold mM_readLoop at h
  refine a_aload_n dX11_readLoop_0 rfl rfl ?_
  refine a_iconst dX11_readLoop_1 ic_0 ?_
  obtain ⟨q1, cq1, h⟩ := h_bindS h
  refine a_callV0 [] yy_X11_startsReading ml_11_314 km_0 rfl (sM_startsReading _ (by omega) (0 : Int32) I J q1 cq1) rfl rfl (Nat.le_of_ble_eq_true rfl) dX11_readLoop_2 ?_
  refine a_aload_n dX11_readLoop_5 rfl rfl ?_
  refine a_iconst dX11_readLoop_6 ic_0 ?_
  refine b_putI hK_11 km_0 (i := 24) rfl fl_11_293 rfl rfl (h_NI _) dX11_readLoop_7 ?_
  obtain ⟨I2, eI2, h⟩ := h_letS h
  refine a_memI eI2 ?_
  refine a_aload_n dX11_readLoop_10 rfl rfl ?_
  refine a_iconst dX11_readLoop_11 ic_0 ?_
  refine b_putI hK_11 km_0 (i := 25) rfl fl_11_296 rfl rfl (h_NI _) dX11_readLoop_12 ?_
  obtain ⟨I3, eI3, h⟩ := h_letS h
  refine a_memI eI3 ?_
  refine a_aload_n dX11_readLoop_15 rfl rfl ?_
  refine a_iconst dX11_readLoop_16 ic_0 ?_
  refine b_putI hK_11 km_0 (i := 30) rfl fl_11_281 rfl rfl (h_NI _) dX11_readLoop_17 ?_
  obtain ⟨I4, eI4, h⟩ := h_letS h
  refine a_memI eI4 ?_
  refine a_aload_n dX11_readLoop_20 rfl rfl ?_
  refine a_iconst dX11_readLoop_21 ic_0 ?_
  refine b_putI hK_11 km_0 (i := 31) rfl fl_11_299 rfl rfl (h_NI _) dX11_readLoop_22 ?_
  obtain ⟨I5, eI5, h⟩ := h_letS h
  refine a_memI eI5 ?_
  refine a_aload_n dX11_readLoop_25 rfl rfl ?_
  refine a_ldcS (i := 0) lit_11_231 kdM_len dX11_readLoop_26 ?_
  obtain ⟨q6, cq6, h⟩ := h_bindS h
  refine a_callV1 [] yy_X11_takesWord ml_11_233 km_0 rfl (sM_takesWord _ (by omega) 0 (by decide) I5 J q6 cq6) rfl rfl (Nat.le_of_ble_eq_true rfl) dX11_readLoop_28 ?_
  refine a_if_ne (tgt := 38) dX11_readLoop_31 (by decide) (fun c => ?_) (fun c => ?_)
  · replace h := h_iteF c h
    exact sM_readLoop_38 (d0 + 1) (by omega)  q6.2 J _ h
  · replace h := h_iteT c h
    refine a_aload_n dX11_readLoop_34 rfl rfl ?_
    obtain ⟨q7, cq7, h⟩ := h_letS h
    refine a_callV0 [] yy_X11_bad ml_11_225 km_0 rfl (sM_bad _ (by omega)  q6.2 J q7 cq7) rfl rfl (Nat.le_of_ble_eq_true rfl) dX11_readLoop_35 ?_
    exact sM_readLoop_38 (d0 + 1) (by omega)  q7 J _ h
/-! CoinLoopsModel.readPiece()Z -/
theorem dX11_readPiece_0 : decode cX11_readPiece 0 = .ok (.aload_n 0, 1) := by decide +kernel
theorem dX11_readPiece_1 : decode cX11_readPiece 1 = .ok (.getfield 334, 3) := by decide +kernel
theorem dX11_readPiece_4 : decode cX11_readPiece 4 = .ok (.istore_n 1, 1) := by decide +kernel
theorem dX11_readPiece_5 : decode cX11_readPiece 5 = .ok (.aload_n 0, 1) := by decide +kernel
theorem dX11_readPiece_6 : decode cX11_readPiece 6 = .ok (.dup, 1) := by decide +kernel
theorem dX11_readPiece_7 : decode cX11_readPiece 7 = .ok (.getfield 334, 3) := by decide +kernel
theorem dX11_readPiece_10 : decode cX11_readPiece 10 = .ok (.iconst 1, 1) := by decide +kernel
theorem dX11_readPiece_11 : decode cX11_readPiece 11 = .ok (.iadd, 1) := by decide +kernel
theorem dX11_readPiece_12 : decode cX11_readPiece 12 = .ok (.putfield 334, 3) := by decide +kernel
theorem dX11_readPiece_15 : decode cX11_readPiece 15 = .ok (.aload_n 0, 1) := by decide +kernel
theorem dX11_readPiece_16 : decode cX11_readPiece 16 = .ok (.getfield 56, 3) := by decide +kernel
theorem dX11_readPiece_19 : decode cX11_readPiece 19 = .ok (.iload_n 1, 1) := by decide +kernel
theorem dX11_readPiece_20 : decode cX11_readPiece 20 = .ok (.aload_n 0, 1) := by decide +kernel
theorem dX11_readPiece_21 : decode cX11_readPiece 21 = .ok (.getfield 245, 3) := by decide +kernel
theorem dX11_readPiece_24 : decode cX11_readPiece 24 = .ok (.iastore, 1) := by decide +kernel
theorem dX11_readPiece_25 : decode cX11_readPiece 25 = .ok (.aload_n 0, 1) := by decide +kernel
theorem dX11_readPiece_26 : decode cX11_readPiece 26 = .ok (.invokevirtual 252, 3) := by decide +kernel
theorem dX11_readPiece_29 : decode cX11_readPiece 29 = .ok (.istore_n 2, 1) := by decide +kernel
theorem dX11_readPiece_30 : decode cX11_readPiece 30 = .ok (.aload_n 0, 1) := by decide +kernel
theorem dX11_readPiece_31 : decode cX11_readPiece 31 = .ok (.invokevirtual 248, 3) := by decide +kernel
theorem dX11_readPiece_34 : decode cX11_readPiece 34 = .ok (.istore_n 3, 1) := by decide +kernel
theorem dX11_readPiece_35 : decode cX11_readPiece 35 = .ok (.iload_n 3, 1) := by decide +kernel
theorem dX11_readPiece_36 : decode cX11_readPiece 36 = .ok (.ifCond .eq 31, 3) := by decide +kernel
theorem dX11_readPiece_39 : decode cX11_readPiece 39 = .ok (.aload_n 0, 1) := by decide +kernel
theorem dX11_readPiece_40 : decode cX11_readPiece 40 = .ok (.iload_n 2, 1) := by decide +kernel
theorem dX11_readPiece_41 : decode cX11_readPiece 41 = .ok (.invokevirtual 305, 3) := by decide +kernel
theorem dX11_readPiece_44 : decode cX11_readPiece 44 = .ok (.aload_n 0, 1) := by decide +kernel
theorem dX11_readPiece_45 : decode cX11_readPiece 45 = .ok (.bipush 63, 2) := by decide +kernel
theorem dX11_readPiece_47 : decode cX11_readPiece 47 = .ok (.invokevirtual 287, 3) := by decide +kernel
theorem dX11_readPiece_50 : decode cX11_readPiece 50 = .ok (.aload_n 0, 1) := by decide +kernel
theorem dX11_readPiece_51 : decode cX11_readPiece 51 = .ok (.getfield 200, 3) := by decide +kernel
theorem dX11_readPiece_54 : decode cX11_readPiece 54 = .ok (.iconst (-1), 1) := by decide +kernel
theorem dX11_readPiece_55 : decode cX11_readPiece 55 = .ok (.if_icmp .ne 10, 3) := by decide +kernel
theorem dX11_readPiece_58 : decode cX11_readPiece 58 = .ok (.aload_n 0, 1) := by decide +kernel
theorem dX11_readPiece_59 : decode cX11_readPiece 59 = .ok (.invokevirtual 252, 3) := by decide +kernel
theorem dX11_readPiece_62 : decode cX11_readPiece 62 = .ok (.goto 4, 3) := by decide +kernel
theorem dX11_readPiece_65 : decode cX11_readPiece 65 = .ok (.iconst 0, 1) := by decide +kernel
theorem dX11_readPiece_66 : decode cX11_readPiece 66 = .ok (.istore_n 2, 1) := by decide +kernel
theorem dX11_readPiece_67 : decode cX11_readPiece 67 = .ok (.aload_n 0, 1) := by decide +kernel
theorem dX11_readPiece_68 : decode cX11_readPiece 68 = .ok (.getfield 59, 3) := by decide +kernel
theorem dX11_readPiece_71 : decode cX11_readPiece 71 = .ok (.iload_n 1, 1) := by decide +kernel
theorem dX11_readPiece_72 : decode cX11_readPiece 72 = .ok (.aload_n 0, 1) := by decide +kernel
theorem dX11_readPiece_73 : decode cX11_readPiece 73 = .ok (.getfield 245, 3) := by decide +kernel
theorem dX11_readPiece_76 : decode cX11_readPiece 76 = .ok (.iastore, 1) := by decide +kernel
theorem dX11_readPiece_77 : decode cX11_readPiece 77 = .ok (.aload_n 0, 1) := by decide +kernel
theorem dX11_readPiece_78 : decode cX11_readPiece 78 = .ok (.getfield 62, 3) := by decide +kernel
theorem dX11_readPiece_81 : decode cX11_readPiece 81 = .ok (.iload_n 1, 1) := by decide +kernel
theorem dX11_readPiece_82 : decode cX11_readPiece 82 = .ok (.iload_n 2, 1) := by decide +kernel
theorem dX11_readPiece_83 : decode cX11_readPiece 83 = .ok (.iastore, 1) := by decide +kernel
theorem dX11_readPiece_84 : decode cX11_readPiece 84 = .ok (.aload_n 0, 1) := by decide +kernel
theorem dX11_readPiece_85 : decode cX11_readPiece 85 = .ok (.getfield 65, 3) := by decide +kernel
theorem dX11_readPiece_88 : decode cX11_readPiece 88 = .ok (.iload_n 1, 1) := by decide +kernel
theorem dX11_readPiece_89 : decode cX11_readPiece 89 = .ok (.aload_n 0, 1) := by decide +kernel
theorem dX11_readPiece_90 : decode cX11_readPiece 90 = .ok (.ldc_w 340, 3) := by decide +kernel
theorem dX11_readPiece_93 : decode cX11_readPiece 93 = .ok (.invokevirtual 233, 3) := by decide +kernel
theorem dX11_readPiece_96 : decode cX11_readPiece 96 = .ok (.ifCond .eq 13, 3) := by decide +kernel
theorem dX11_readPiece_99 : decode cX11_readPiece 99 = .ok (.aload_n 0, 1) := by decide +kernel
theorem dX11_readPiece_100 : decode cX11_readPiece 100 = .ok (.iconst 1, 1) := by decide +kernel
theorem dX11_readPiece_101 : decode cX11_readPiece 101 = .ok (.bipush 12, 2) := by decide +kernel
theorem dX11_readPiece_103 : decode cX11_readPiece 103 = .ok (.invokevirtual 228, 3) := by decide +kernel
theorem dX11_readPiece_106 : decode cX11_readPiece 106 = .ok (.goto 4, 3) := by decide +kernel
theorem dX11_readPiece_109 : decode cX11_readPiece 109 = .ok (.iconst 1, 1) := by decide +kernel
theorem dX11_readPiece_110 : decode cX11_readPiece 110 = .ok (.iastore, 1) := by decide +kernel
theorem dX11_readPiece_111 : decode cX11_readPiece 111 = .ok (.iload_n 3, 1) := by decide +kernel
theorem dX11_readPiece_112 : decode cX11_readPiece 112 = .ok (.ifCond .eq 9, 3) := by decide +kernel
theorem dX11_readPiece_115 : decode cX11_readPiece 115 = .ok (.aload_n 0, 1) := by decide +kernel
theorem dX11_readPiece_116 : decode cX11_readPiece 116 = .ok (.bipush 59, 2) := by decide +kernel
theorem dX11_readPiece_118 : decode cX11_readPiece 118 = .ok (.invokevirtual 287, 3) := by decide +kernel
theorem dX11_readPiece_121 : decode cX11_readPiece 121 = .ok (.iload_n 3, 1) := by decide +kernel
theorem dX11_readPiece_122 : decode cX11_readPiece 122 = .ok (.ireturn, 1) := by decide +kernel
def mM_readPiece_110  (v3 : Int32) (vs1 : Int32) (vs2 : Int32) (I : hI) : Option (Int32 × hI) :=
  h_g (h_in vs1 8) <|
  h_let (h_u I 19 vs1.toNatClampNeg vs2) fun I2 =>
  if v3 = 0 then
    (h_g (h_isZ v3) <|
    some (v3, I2))
  else
    ((mM_must (59 : Int32) I2).bind fun q3 =>
    h_g (h_isZ v3) <|
    some (v3, q3))
set_option maxHeartbeats 4000000 in
theorem sM_readPiece_110 (d : Nat) (hd : 12 + 1 ≤ d) (v3 : Int32) (vs1 : Int32) (vs2 : Int32) (I : hI) (J : hJ) (q : Int32 × hI) (h : mM_readPiece_110 v3 vs1 vs2 I = some q) : AW hFT cX11_readPiece 4 (some .boolean) RX11 kdM d [(0, .ref 0), (3, .int v3)] 110 [.int vs2, .int vs1, .ref 19] (I, J, RMm) (some (.int q.1)) (q.2, J, RMm) := by
  obtain ⟨d0, rfl, hd0⟩ := h_mono hd
  unfold mM_readPiece_110 at h
  obtain ⟨g1, h⟩ := h_gS h
  refine b_iastore km_19 (h_inV g1) dX11_readPiece_110 ?_
  obtain ⟨I2, eI2, h⟩ := h_letS h
  refine a_memI eI2 ?_
  refine a_iload_n dX11_readPiece_111 rfl rfl ?_
  refine a_if_eq (tgt := 121) dX11_readPiece_112 (by decide) (fun c => ?_) (fun c => ?_)
  · replace h := h_iteT c h
    refine a_iload_n dX11_readPiece_121 rfl rfl ?_
    obtain ⟨g3, h⟩ := h_gS h
    cases h
    exact a_zret ((h_isZV g3).1) dX11_readPiece_122
  · replace h := h_iteF c h
    refine a_aload_n dX11_readPiece_115 rfl rfl ?_
    refine a_bipush dX11_readPiece_116 bp_59 ?_
    obtain ⟨q3, cq3, h⟩ := h_bindS h
    refine a_callV0 [] yy_X11_must ml_11_287 km_0 rfl (sM_must _ (by omega) (59 : Int32) I2 J q3 cq3) rfl rfl (Nat.le_of_ble_eq_true rfl) dX11_readPiece_118 ?_
    refine a_iload_n dX11_readPiece_121 rfl rfl ?_
    obtain ⟨g4, h⟩ := h_gS h
    cases h
    exact a_zret ((h_isZV g4).1) dX11_readPiece_122
def mM_readPiece_67  (v1 : Int32) (v2 : Int32) (v3 : Int32) (I : hI) : Option (Int32 × hI) :=
  h_g (h_in v1 8) <|
  h_let (h_u I 17 v1.toNatClampNeg (I 0 16)) fun I2 =>
  h_g (h_in v1 8) <|
  h_let (h_u I2 18 v1.toNatClampNeg v2) fun I4 =>
  (mM_takesWord 10 I4).bind fun q5 =>
  if q5.1 = 0 then
    mM_readPiece_110 v3 v1 (1 : Int32) q5.2
  else
    ((mM_takesNumber (1 : Int32) (12 : Int32) q5.2).bind fun q6 =>
    mM_readPiece_110 v3 v1 q6.1 q6.2)
set_option maxHeartbeats 4000000 in
theorem sM_readPiece_67 (d : Nat) (hd : 12 + 1 ≤ d) (v1 : Int32) (v2 : Int32) (v3 : Int32) (I : hI) (J : hJ) (q : Int32 × hI) (h : mM_readPiece_67 v1 v2 v3 I = some q) : AW hFT cX11_readPiece 4 (some .boolean) RX11 kdM d [(0, .ref 0), (1, .int v1), (2, .int v2), (3, .int v3)] 67 [] (I, J, RMm) (some (.int q.1)) (q.2, J, RMm) := by
  obtain ⟨d0, rfl, hd0⟩ := h_mono hd
  unfold mM_readPiece_67 at h
  refine a_aload_n dX11_readPiece_67 rfl rfl ?_
  refine b_getR hK_11 km_0 (i := 33) rfl fl_11_59 rfl rmm_33 dX11_readPiece_68 ?_
  refine a_iload_n dX11_readPiece_71 rfl rfl ?_
  refine a_aload_n dX11_readPiece_72 rfl rfl ?_
  refine b_getI hK_11 km_0 (i := 16) rfl fl_11_245 rfl dX11_readPiece_73 ?_
  obtain ⟨g1, h⟩ := h_gS h
  refine b_iastore km_17 (h_inV g1) dX11_readPiece_76 ?_
  obtain ⟨I2, eI2, h⟩ := h_letS h
  refine a_memI eI2 ?_
  refine a_aload_n dX11_readPiece_77 rfl rfl ?_
  refine b_getR hK_11 km_0 (i := 34) rfl fl_11_62 rfl rmm_34 dX11_readPiece_78 ?_
  refine a_iload_n dX11_readPiece_81 rfl rfl ?_
  refine a_iload_n dX11_readPiece_82 rfl rfl ?_
  obtain ⟨g3, h⟩ := h_gS h
  refine b_iastore km_18 (h_inV g3) dX11_readPiece_83 ?_
  obtain ⟨I4, eI4, h⟩ := h_letS h
  refine a_memI eI4 ?_
  refine a_aload_n dX11_readPiece_84 rfl rfl ?_
  refine b_getR hK_11 km_0 (i := 35) rfl fl_11_65 rfl rmm_35 dX11_readPiece_85 ?_
  refine a_iload_n dX11_readPiece_88 rfl rfl ?_
  refine a_aload_n dX11_readPiece_89 rfl rfl ?_
  refine a_ldc_wS (i := 10) lit_11_340 kdM_len dX11_readPiece_90 ?_
  obtain ⟨q5, cq5, h⟩ := h_bindS h
  refine a_callV1 [.int v1, .ref 19] yy_X11_takesWord ml_11_233 km_0 rfl (sM_takesWord _ (by omega) 10 (by decide) I4 J q5 cq5) rfl rfl (Nat.le_of_ble_eq_true rfl) dX11_readPiece_93 ?_
  refine a_if_eq (tgt := 109) dX11_readPiece_96 (by decide) (fun c => ?_) (fun c => ?_)
  · replace h := h_iteT c h
    refine a_iconst dX11_readPiece_109 ic_1 ?_
    refine a_sub (lv' := [(0, .ref 0), (3, .int v3)]) [0, 3] rfl ?_
    exact sM_readPiece_110 (d0 + 1) (by omega) v3 v1 (1 : Int32) q5.2 J _ h
  · replace h := h_iteF c h
    refine a_aload_n dX11_readPiece_99 rfl rfl ?_
    refine a_iconst dX11_readPiece_100 ic_1 ?_
    refine a_bipush dX11_readPiece_101 bp_12 ?_
    obtain ⟨q6, cq6, h⟩ := h_bindS h
    refine a_callV1 [.int v1, .ref 19] yy_X11_takesNumber ml_11_228 km_0 rfl (sM_takesNumber _ (by omega) (1 : Int32) (12 : Int32) q5.2 J q6 cq6) rfl rfl (Nat.le_of_ble_eq_true rfl) dX11_readPiece_103 ?_
    refine a_goto (tgt := 110) dX11_readPiece_106 (by decide) ?_
    refine a_sub (lv' := [(0, .ref 0), (3, .int v3)]) [0, 3] rfl ?_
    exact sM_readPiece_110 (d0 + 1) (by omega) v3 v1 q6.1 q6.2 J _ h
def mM_readPiece_66  (v1 : Int32) (v3 : Int32) (vs0 : Int32) (I : hI) : Option (Int32 × hI) :=
  mM_readPiece_67 v1 vs0 v3 I
set_option maxHeartbeats 4000000 in
theorem sM_readPiece_66 (d : Nat) (hd : 12 + 1 ≤ d) (v1 : Int32) (v3 : Int32) (vs0 : Int32) (I : hI) (J : hJ) (q : Int32 × hI) (h : mM_readPiece_66 v1 v3 vs0 I = some q) : AW hFT cX11_readPiece 4 (some .boolean) RX11 kdM d [(0, .ref 0), (1, .int v1), (3, .int v3)] 66 [.int vs0] (I, J, RMm) (some (.int q.1)) (q.2, J, RMm) := by
  obtain ⟨d0, rfl, hd0⟩ := h_mono hd
  unfold mM_readPiece_66 at h
  refine a_istore_n (lv' := [(2, .int vs0), (0, .ref 0), (1, .int v1), (3, .int v3)]) dX11_readPiece_66 rfl (by decide) rfl ?_
  refine a_sub (lv' := [(0, .ref 0), (1, .int v1), (2, .int vs0), (3, .int v3)]) [1, 2, 0, 3] rfl ?_
  exact sM_readPiece_67 (d0 + 1) (by omega) v1 vs0 v3 I J _ h
def mM_readPiece   (I : hI) : Option (Int32 × hI) :=
  h_let (I 0 36) fun v1x0 =>
  h_let (h_u I 0 36 ((I 0 36) + (1 : Int32))) fun I2 =>
  h_g (h_in v1x0 8) <|
  h_let (h_u I2 16 v1x0.toNatClampNeg (I2 0 16)) fun I4 =>
  (mM_readSum I4).bind fun q5 =>
  h_let q5.1 fun v2x5 =>
  (mM_isRelation q5.2).bind fun q7 =>
  if q7 = 0 then
    mM_readPiece_67 v1x0 v2x5 q7 q5.2
  else
    ((mM_readCond v2x5 q5.2).bind fun q8 =>
    (mM_must (63 : Int32) q8).bind fun q9 =>
    if (q9 0 5) = (-1 : Int32) then
      ((mM_readSum q9).bind fun q10 =>
      mM_readPiece_66 v1x0 q7 q10.1 q10.2)
    else
      mM_readPiece_66 v1x0 q7 (0 : Int32) q9)
set_option maxHeartbeats 4000000 in
theorem sM_readPiece (d : Nat) (hd : 12 + 1 ≤ d)  (I : hI) (J : hJ) (q : Int32 × hI) (h : mM_readPiece I = some q) : HMet hFT yX11_readPiece cX11_readPiece 4 (some .boolean) kdM d [.ref 0] (I, J, RMm) (some (.int q.1)) (q.2, J, RMm) := by
  obtain ⟨d0, rfl, hd0⟩ := h_mono hd
  refine HMet.of (by decide) (Nat.le_of_ble_eq_true rfl) ?_
  show AW hFT cX11_readPiece 4 (some .boolean) RX11 kdM (d0 + 1) [(0, .ref 0)] 0 [] (I, J, RMm) (some (.int q.1)) (q.2, J, RMm)
  unfold mM_readPiece at h
  refine a_aload_n dX11_readPiece_0 rfl rfl ?_
  refine b_getI hK_11 km_0 (i := 36) rfl fl_11_334 rfl dX11_readPiece_1 ?_
  obtain ⟨v1x0, ev1x0, h⟩ := h_letS h
  refine a_topI ev1x0 ?_
  refine a_istore_n (lv' := [(1, .int v1x0), (0, .ref 0)]) dX11_readPiece_4 rfl (by decide) rfl ?_
  refine a_aload_n dX11_readPiece_5 rfl rfl ?_
  refine a_dup dX11_readPiece_6 rfl ?_
  refine b_getI hK_11 km_0 (i := 36) rfl fl_11_334 rfl dX11_readPiece_7 ?_
  refine a_iconst dX11_readPiece_10 ic_1 ?_
  refine a_iadd dX11_readPiece_11 ?_
  refine b_putI hK_11 km_0 (i := 36) rfl fl_11_334 rfl rfl (h_NI _) dX11_readPiece_12 ?_
  obtain ⟨I2, eI2, h⟩ := h_letS h
  refine a_memI eI2 ?_
  refine a_aload_n dX11_readPiece_15 rfl rfl ?_
  refine b_getR hK_11 km_0 (i := 32) rfl fl_11_56 rfl rmm_32 dX11_readPiece_16 ?_
  refine a_iload_n dX11_readPiece_19 rfl rfl ?_
  refine a_aload_n dX11_readPiece_20 rfl rfl ?_
  refine b_getI hK_11 km_0 (i := 16) rfl fl_11_245 rfl dX11_readPiece_21 ?_
  obtain ⟨g3, h⟩ := h_gS h
  refine b_iastore km_16 (h_inV g3) dX11_readPiece_24 ?_
  obtain ⟨I4, eI4, h⟩ := h_letS h
  refine a_memI eI4 ?_
  refine a_aload_n dX11_readPiece_25 rfl rfl ?_
  obtain ⟨q5, cq5, h⟩ := h_bindS h
  refine a_callV1 [] yy_X11_readSum ml_11_252 km_0 rfl (sM_readSum _ (by omega)  I4 J q5 cq5) rfl rfl (Nat.le_of_ble_eq_true rfl) dX11_readPiece_26 ?_
  obtain ⟨v2x5, ev2x5, h⟩ := h_letS h
  refine a_topI ev2x5 ?_
  refine a_istore_n (lv' := [(2, .int v2x5), (1, .int v1x0), (0, .ref 0)]) dX11_readPiece_29 rfl (by decide) rfl ?_
  refine a_aload_n dX11_readPiece_30 rfl rfl ?_
  obtain ⟨q7, cq7, h⟩ := h_bindS h
  refine a_callV1 [] yy_X11_isRelation ml_11_248 km_0 rfl (sM_isRelation _ (by omega)  q5.2 J q7 cq7) rfl rfl (Nat.le_of_ble_eq_true rfl) dX11_readPiece_31 ?_
  refine a_istore_n (lv' := [(3, .int q7), (2, .int v2x5), (1, .int v1x0), (0, .ref 0)]) dX11_readPiece_34 rfl (by decide) rfl ?_
  refine a_iload_n dX11_readPiece_35 rfl rfl ?_
  refine a_if_eq (tgt := 67) dX11_readPiece_36 (by decide) (fun c => ?_) (fun c => ?_)
  · replace h := h_iteT c h
    refine a_sub (lv' := [(0, .ref 0), (1, .int v1x0), (2, .int v2x5), (3, .int q7)]) [3, 2, 1, 0] rfl ?_
    exact sM_readPiece_67 (d0 + 1) (by omega) v1x0 v2x5 q7 q5.2 J _ h
  · replace h := h_iteF c h
    refine a_aload_n dX11_readPiece_39 rfl rfl ?_
    refine a_iload_n dX11_readPiece_40 rfl rfl ?_
    obtain ⟨q8, cq8, h⟩ := h_bindS h
    refine a_callV0 [] yy_X11_readCond ml_11_305 km_0 rfl (sM_readCond _ (by omega) v2x5 q5.2 J q8 cq8) rfl rfl (Nat.le_of_ble_eq_true rfl) dX11_readPiece_41 ?_
    refine a_aload_n dX11_readPiece_44 rfl rfl ?_
    refine a_bipush dX11_readPiece_45 bp_63 ?_
    obtain ⟨q9, cq9, h⟩ := h_bindS h
    refine a_callV0 [] yy_X11_must ml_11_287 km_0 rfl (sM_must _ (by omega) (63 : Int32) q8 J q9 cq9) rfl rfl (Nat.le_of_ble_eq_true rfl) dX11_readPiece_47 ?_
    refine a_aload_n dX11_readPiece_50 rfl rfl ?_
    refine b_getI hK_11 km_0 (i := 5) rfl fl_11_200 rfl dX11_readPiece_51 ?_
    refine a_iconst dX11_readPiece_54 ic_m1 ?_
    refine a_icmp_ne (tgt := 65) dX11_readPiece_55 (by decide) (fun c => ?_) (fun c => ?_)
    · replace h := h_iteF c h
      refine a_iconst dX11_readPiece_65 ic_0 ?_
      refine a_sub (lv' := [(0, .ref 0), (1, .int v1x0), (3, .int q7)]) [3, 2, 0] rfl ?_
      exact sM_readPiece_66 (d0 + 1) (by omega) v1x0 q7 (0 : Int32) q9 J _ h
    · replace h := h_iteT c h
      refine a_aload_n dX11_readPiece_58 rfl rfl ?_
      obtain ⟨q10, cq10, h⟩ := h_bindS h
      refine a_callV1 [] yy_X11_readSum ml_11_252 km_0 rfl (sM_readSum _ (by omega)  q9 J q10 cq10) rfl rfl (Nat.le_of_ble_eq_true rfl) dX11_readPiece_59 ?_
      refine a_goto (tgt := 66) dX11_readPiece_62 (by decide) ?_
      refine a_sub (lv' := [(0, .ref 0), (1, .int v1x0), (3, .int q7)]) [3, 2, 0] rfl ?_
      exact sM_readPiece_66 (d0 + 1) (by omega) v1x0 q7 q10.1 q10.2 J _ h
/-! CoinLoopsModel.readGuess()I -/
theorem dX11_readGuess_0 : decode cX11_readGuess 0 = .ok (.aload_n 0, 1) := by decide +kernel
theorem dX11_readGuess_1 : decode cX11_readGuess 1 = .ok (.sipush 250, 3) := by decide +kernel
theorem dX11_readGuess_4 : decode cX11_readGuess 4 = .ok (.invokevirtual 314, 3) := by decide +kernel
theorem dX11_readGuess_7 : decode cX11_readGuess 7 = .ok (.aload_n 0, 1) := by decide +kernel
theorem dX11_readGuess_8 : decode cX11_readGuess 8 = .ok (.iconst 0, 1) := by decide +kernel
theorem dX11_readGuess_9 : decode cX11_readGuess 9 = .ok (.putfield 334, 3) := by decide +kernel
theorem dX11_readGuess_12 : decode cX11_readGuess 12 = .ok (.iconst 1, 1) := by decide +kernel
theorem dX11_readGuess_13 : decode cX11_readGuess 13 = .ok (.istore_n 1, 1) := by decide +kernel
theorem dX11_readGuess_14 : decode cX11_readGuess 14 = .ok (.iload_n 1, 1) := by decide +kernel
theorem dX11_readGuess_15 : decode cX11_readGuess 15 = .ok (.ifCond .eq 35, 3) := by decide +kernel
theorem dX11_readGuess_18 : decode cX11_readGuess 18 = .ok (.aload_n 0, 1) := by decide +kernel
theorem dX11_readGuess_19 : decode cX11_readGuess 19 = .ok (.getfield 200, 3) := by decide +kernel
theorem dX11_readGuess_22 : decode cX11_readGuess 22 = .ok (.iconst (-1), 1) := by decide +kernel
theorem dX11_readGuess_23 : decode cX11_readGuess 23 = .ok (.if_icmp .ne 27, 3) := by decide +kernel
theorem dX11_readGuess_26 : decode cX11_readGuess 26 = .ok (.aload_n 0, 1) := by decide +kernel
theorem dX11_readGuess_27 : decode cX11_readGuess 27 = .ok (.getfield 334, 3) := by decide +kernel
theorem dX11_readGuess_30 : decode cX11_readGuess 30 = .ok (.bipush 8, 2) := by decide +kernel
theorem dX11_readGuess_32 : decode cX11_readGuess 32 = .ok (.if_icmp .ne 10, 3) := by decide +kernel
theorem dX11_readGuess_35 : decode cX11_readGuess 35 = .ok (.aload_n 0, 1) := by decide +kernel
theorem dX11_readGuess_36 : decode cX11_readGuess 36 = .ok (.invokevirtual 225, 3) := by decide +kernel
theorem dX11_readGuess_39 : decode cX11_readGuess 39 = .ok (.goto (-25), 3) := by decide +kernel
theorem dX11_readGuess_42 : decode cX11_readGuess 42 = .ok (.aload_n 0, 1) := by decide +kernel
theorem dX11_readGuess_43 : decode cX11_readGuess 43 = .ok (.invokevirtual 337, 3) := by decide +kernel
theorem dX11_readGuess_46 : decode cX11_readGuess 46 = .ok (.istore_n 1, 1) := by decide +kernel
theorem dX11_readGuess_47 : decode cX11_readGuess 47 = .ok (.goto (-33), 3) := by decide +kernel
theorem dX11_readGuess_50 : decode cX11_readGuess 50 = .ok (.aload_n 0, 1) := by decide +kernel
theorem dX11_readGuess_51 : decode cX11_readGuess 51 = .ok (.invokevirtual 331, 3) := by decide +kernel
theorem dX11_readGuess_54 : decode cX11_readGuess 54 = .ok (.aload_n 0, 1) := by decide +kernel
theorem dX11_readGuess_55 : decode cX11_readGuess 55 = .ok (.getfield 200, 3) := by decide +kernel
theorem dX11_readGuess_58 : decode cX11_readGuess 58 = .ok (.ireturn, 1) := by decide +kernel
def mM_readGuess_50   (I : hI) : Option (Int32 × hI) :=
  h_let (mM_over I) fun q1 =>
  some ((q1 0 5), q1)
set_option maxHeartbeats 4000000 in
theorem sM_readGuess_50 (d : Nat) (hd : 13 + 1 ≤ d)  (I : hI) (J : hJ) (q : Int32 × hI) (h : mM_readGuess_50 I = some q) : AW hFT cX11_readGuess 2 (some .int) RX11 kdM d [(0, .ref 0)] 50 [] (I, J, RMm) (some (.int q.1)) (q.2, J, RMm) := by
  obtain ⟨d0, rfl, hd0⟩ := h_mono hd
  unfold mM_readGuess_50 at h
  refine a_aload_n dX11_readGuess_50 rfl rfl ?_
  obtain ⟨q1, cq1, h⟩ := h_letS h
  refine a_callV0 [] yy_X11_over ml_11_331 km_0 rfl (sM_over _ (by omega)  I J q1 cq1) rfl rfl (Nat.le_of_ble_eq_true rfl) dX11_readGuess_51 ?_
  refine a_aload_n dX11_readGuess_54 rfl rfl ?_
  refine b_getI hK_11 km_0 (i := 5) rfl fl_11_200 rfl dX11_readGuess_55 ?_
  cases h
  exact a_iret dX11_readGuess_58
def mM_readGuess_B14 (k14 : Int32 → hI → Option (Int32 × hI)) (v1 : Int32) (I : hI) : Option (Int32 × hI) :=
  if v1 = 0 then
    mM_readGuess_50 I
  else
    (if (I 0 5) = (-1 : Int32) then
      (if (I 0 36) = (8 : Int32) then
        (h_let (mM_bad I) fun q1 =>
        k14 v1 q1)
      else
        ((mM_readPiece I).bind fun q1 =>
        h_let q1.1 fun v1x1 =>
        k14 v1x1 q1.2))
    else
      mM_readGuess_50 I)
set_option maxHeartbeats 4000000 in
theorem sM_readGuess_B14 (d : Nat) (hd : 13 + 1 ≤ d) (k14 : Int32 → hI → Option (Int32 × hI)) (hk14 : ∀ (v1 : Int32) (I : hI) (J : hJ) (q : Int32 × hI), k14 v1 I = some q → AW hFT cX11_readGuess 2 (some .int) RX11 kdM d [(0, .ref 0), (1, .int v1)] 14 [] (I, J, RMm) (some (.int q.1)) (q.2, J, RMm)) (v1 : Int32) (I : hI) (J : hJ) (q : Int32 × hI) (h : mM_readGuess_B14 k14 v1 I = some q) : AW hFT cX11_readGuess 2 (some .int) RX11 kdM d [(0, .ref 0), (1, .int v1)] 14 [] (I, J, RMm) (some (.int q.1)) (q.2, J, RMm) := by
  obtain ⟨d0, rfl, hd0⟩ := h_mono hd
  unfold mM_readGuess_B14 at h
  refine a_iload_n dX11_readGuess_14 rfl rfl ?_
  refine a_if_eq (tgt := 50) dX11_readGuess_15 (by decide) (fun c => ?_) (fun c => ?_)
  · replace h := h_iteT c h
    refine a_sub (lv' := [(0, .ref 0)]) [0] rfl ?_
    exact sM_readGuess_50 (d0 + 1) (by omega)  I J _ h
  · replace h := h_iteF c h
    refine a_aload_n dX11_readGuess_18 rfl rfl ?_
    refine b_getI hK_11 km_0 (i := 5) rfl fl_11_200 rfl dX11_readGuess_19 ?_
    refine a_iconst dX11_readGuess_22 ic_m1 ?_
    refine a_icmp_ne (tgt := 50) dX11_readGuess_23 (by decide) (fun c => ?_) (fun c => ?_)
    · replace h := h_iteF c h
      refine a_sub (lv' := [(0, .ref 0)]) [0] rfl ?_
      exact sM_readGuess_50 (d0 + 1) (by omega)  I J _ h
    · replace h := h_iteT c h
      refine a_aload_n dX11_readGuess_26 rfl rfl ?_
      refine b_getI hK_11 km_0 (i := 36) rfl fl_11_334 rfl dX11_readGuess_27 ?_
      refine a_bipush dX11_readGuess_30 bp_8 ?_
      refine a_icmp_ne (tgt := 42) dX11_readGuess_32 (by decide) (fun c => ?_) (fun c => ?_)
      · replace h := h_iteF c h
        refine a_aload_n dX11_readGuess_42 rfl rfl ?_
        obtain ⟨q1, cq1, h⟩ := h_bindS h
        refine a_callV1 [] yy_X11_readPiece ml_11_337 km_0 rfl (sM_readPiece _ (by omega)  I J q1 cq1) rfl rfl (Nat.le_of_ble_eq_true rfl) dX11_readGuess_43 ?_
        obtain ⟨v1x1, ev1x1, h⟩ := h_letS h
        refine a_topI ev1x1 ?_
        refine a_istore_n (lv' := [(1, .int v1x1), (0, .ref 0)]) dX11_readGuess_46 rfl (by decide) rfl ?_
        refine a_goto (tgt := 14) dX11_readGuess_47 (by decide) ?_
        refine a_sub (lv' := [(0, .ref 0), (1, .int v1x1)]) [1, 0] rfl ?_
        exact hk14 v1x1 q1.2 J _ h
      · replace h := h_iteT c h
        refine a_aload_n dX11_readGuess_35 rfl rfl ?_
        obtain ⟨q1, cq1, h⟩ := h_letS h
        refine a_callV0 [] yy_X11_bad ml_11_225 km_0 rfl (sM_bad _ (by omega)  I J q1 cq1) rfl rfl (Nat.le_of_ble_eq_true rfl) dX11_readGuess_36 ?_
        refine a_goto (tgt := 14) dX11_readGuess_39 (by decide) ?_
        exact hk14 v1 q1 J _ h
def mM_readGuess_L14  : Nat → Int32 → hI → Option (Int32 × hI)
  | 0 => fun _ _ => none
  | n + 1 => mM_readGuess_B14 (mM_readGuess_L14 n)
theorem sM_readGuess_L14 (d : Nat) (hd : 13 + 1 ≤ d) : ∀ (n : Nat) (v1 : Int32) (I : hI) (J : hJ) (q : Int32 × hI) (h : mM_readGuess_L14 n v1 I = some q), AW hFT cX11_readGuess 2 (some .int) RX11 kdM d [(0, .ref 0), (1, .int v1)] 14 [] (I, J, RMm) (some (.int q.1)) (q.2, J, RMm)
  | 0, _, _, _, q, h => by cases h
  | n + 1, v1, I, J, q, h => sM_readGuess_B14 d hd (mM_readGuess_L14 n) (sM_readGuess_L14 d hd n) v1 I J q h
def mM_readGuess   (I : hI) : Option (Int32 × hI) :=
  (mM_startsReading (250 : Int32) I).bind fun q1 =>
  h_let (h_u q1 0 36 (0 : Int32)) fun I2 =>
  mM_readGuess_L14 hF (1 : Int32) I2
set_option maxHeartbeats 4000000 in
theorem sM_readGuess (d : Nat) (hd : 13 + 1 ≤ d)  (I : hI) (J : hJ) (q : Int32 × hI) (h : mM_readGuess I = some q) : HMet hFT yX11_readGuess cX11_readGuess 2 (some .int) kdM d [.ref 0] (I, J, RMm) (some (.int q.1)) (q.2, J, RMm) := by
  obtain ⟨d0, rfl, hd0⟩ := h_mono hd
  refine HMet.of (by decide) (Nat.le_of_ble_eq_true rfl) ?_
  show AW hFT cX11_readGuess 2 (some .int) RX11 kdM (d0 + 1) [(0, .ref 0)] 0 [] (I, J, RMm) (some (.int q.1)) (q.2, J, RMm)
  unfold mM_readGuess at h
  refine a_aload_n dX11_readGuess_0 rfl rfl ?_
  refine a_sipush dX11_readGuess_1 sq_250 ?_
  obtain ⟨q1, cq1, h⟩ := h_bindS h
  refine a_callV0 [] yy_X11_startsReading ml_11_314 km_0 rfl (sM_startsReading _ (by omega) (250 : Int32) I J q1 cq1) rfl rfl (Nat.le_of_ble_eq_true rfl) dX11_readGuess_4 ?_
  refine a_aload_n dX11_readGuess_7 rfl rfl ?_
  refine a_iconst dX11_readGuess_8 ic_0 ?_
  refine b_putI hK_11 km_0 (i := 36) rfl fl_11_334 rfl rfl (h_NI _) dX11_readGuess_9 ?_
  obtain ⟨I2, eI2, h⟩ := h_letS h
  refine a_memI eI2 ?_
  refine a_iconst dX11_readGuess_12 ic_1 ?_
  refine a_istore_n (lv' := [(1, .int (1 : Int32)), (0, .ref 0)]) dX11_readGuess_13 rfl (by decide) rfl ?_
  refine a_sub (lv' := [(0, .ref 0), (1, .int (1 : Int32))]) [1, 0] rfl ?_
  exact sM_readGuess_L14 (d0 + 1) (by omega) hF (1 : Int32) I2 J _ h
/-! CoinLoopsModel.fault(I)I -/
theorem dX11_fault_0 : decode cX11_fault 0 = .ok (.aload_n 0, 1) := by decide +kernel
theorem dX11_fault_1 : decode cX11_fault 1 = .ok (.iconst 0, 1) := by decide +kernel
theorem dX11_fault_2 : decode cX11_fault 2 = .ok (.putfield 156, 3) := by decide +kernel
theorem dX11_fault_5 : decode cX11_fault 5 = .ok (.iload_n 1, 1) := by decide +kernel
theorem dX11_fault_6 : decode cX11_fault 6 = .ok (.ifCond .ne 10, 3) := by decide +kernel
theorem dX11_fault_9 : decode cX11_fault 9 = .ok (.aload_n 0, 1) := by decide +kernel
theorem dX11_fault_10 : decode cX11_fault 10 = .ok (.invokevirtual 342, 3) := by decide +kernel
theorem dX11_fault_13 : decode cX11_fault 13 = .ok (.goto 17, 3) := by decide +kernel
theorem dX11_fault_16 : decode cX11_fault 16 = .ok (.iload_n 1, 1) := by decide +kernel
theorem dX11_fault_17 : decode cX11_fault 17 = .ok (.iconst 1, 1) := by decide +kernel
theorem dX11_fault_18 : decode cX11_fault 18 = .ok (.if_icmp .ne 10, 3) := by decide +kernel
theorem dX11_fault_21 : decode cX11_fault 21 = .ok (.aload_n 0, 1) := by decide +kernel
theorem dX11_fault_22 : decode cX11_fault 22 = .ok (.invokevirtual 345, 3) := by decide +kernel
theorem dX11_fault_25 : decode cX11_fault 25 = .ok (.goto 5, 3) := by decide +kernel
theorem dX11_fault_28 : decode cX11_fault 28 = .ok (.bipush (-2), 2) := by decide +kernel
theorem dX11_fault_30 : decode cX11_fault 30 = .ok (.ireturn, 1) := by decide +kernel
def mM_fault  (v1 : Int32) (I : hI) : Option (Int32 × hI) :=
  h_let (h_u I 0 0 (0 : Int32)) fun I1 =>
  if v1 = 0 then
    ((mM_readLoop I1).bind fun q2 =>
    some (q2.1, q2.2))
  else
    (if v1 = (1 : Int32) then
      ((mM_readGuess I1).bind fun q2 =>
      some (q2.1, q2.2))
    else
      some ((-2 : Int32), I1))
set_option maxHeartbeats 4000000 in
theorem sM_fault (d : Nat) (hd : 152 + 1 ≤ d) (v1 : Int32) (I : hI) (J : hJ) (q : Int32 × hI) (h : mM_fault v1 I = some q) : HMet hFT yX11_fault cX11_fault 2 (some .int) kdM d [.ref 0, .int v1] (I, J, RMm) (some (.int q.1)) (q.2, J, RMm) := by
  obtain ⟨d0, rfl, hd0⟩ := h_mono hd
  refine HMet.of (by decide) (Nat.le_of_ble_eq_true rfl) ?_
  show AW hFT cX11_fault 2 (some .int) RX11 kdM (d0 + 1) [(0, .ref 0), (1, .int v1)] 0 [] (I, J, RMm) (some (.int q.1)) (q.2, J, RMm)
  unfold mM_fault at h
  refine a_aload_n dX11_fault_0 rfl rfl ?_
  refine a_iconst dX11_fault_1 ic_0 ?_
  refine b_putI hK_11 km_0 (i := 0) rfl fl_11_156 rfl rfl (h_NI _) dX11_fault_2 ?_
  obtain ⟨I1, eI1, h⟩ := h_letS h
  refine a_memI eI1 ?_
  refine a_iload_n dX11_fault_5 rfl rfl ?_
  refine a_if_ne (tgt := 16) dX11_fault_6 (by decide) (fun c => ?_) (fun c => ?_)
  · replace h := h_iteF c h
    refine a_iload_n dX11_fault_16 rfl rfl ?_
    refine a_iconst dX11_fault_17 ic_1 ?_
    refine a_icmp_ne (tgt := 28) dX11_fault_18 (by decide) (fun c => ?_) (fun c => ?_)
    · replace h := h_iteF c h
      refine a_bipush dX11_fault_28 bp_m2 ?_
      cases h
      exact a_iret dX11_fault_30
    · replace h := h_iteT c h
      refine a_aload_n dX11_fault_21 rfl rfl ?_
      obtain ⟨q2, cq2, h⟩ := h_bindS h
      refine a_callV1 [] yy_X11_readGuess ml_11_345 km_0 rfl (sM_readGuess _ (by omega)  I1 J q2 cq2) rfl rfl (Nat.le_of_ble_eq_true rfl) dX11_fault_22 ?_
      refine a_goto (tgt := 30) dX11_fault_25 (by decide) ?_
      cases h
      exact a_iret dX11_fault_30
  · replace h := h_iteT c h
    refine a_aload_n dX11_fault_9 rfl rfl ?_
    obtain ⟨q2, cq2, h⟩ := h_bindS h
    refine a_callV1 [] yy_X11_readLoop ml_11_342 km_0 rfl (sM_readLoop _ (by omega)  I1 J q2 cq2) rfl rfl (Nat.le_of_ble_eq_true rfl) dX11_fault_10 ?_
    refine a_goto (tgt := 30) dX11_fault_13 (by decide) ?_
    cases h
    exact a_iret dX11_fault_30
/-! CoinLoopsModel.keepsSums(I)V -/
theorem dX11_keepsSums_0 : decode cX11_keepsSums 0 = .ok (.iload_n 1, 1) := by decide +kernel
theorem dX11_keepsSums_1 : decode cX11_keepsSums 1 = .ok (.istore_n 2, 1) := by decide +kernel
theorem dX11_keepsSums_2 : decode cX11_keepsSums 2 = .ok (.iload_n 2, 1) := by decide +kernel
theorem dX11_keepsSums_3 : decode cX11_keepsSums 3 = .ok (.aload_n 0, 1) := by decide +kernel
theorem dX11_keepsSums_4 : decode cX11_keepsSums 4 = .ok (.getfield 238, 3) := by decide +kernel
theorem dX11_keepsSums_7 : decode cX11_keepsSums 7 = .ok (.if_icmp .ge 57, 3) := by decide +kernel
theorem dX11_keepsSums_10 : decode cX11_keepsSums 10 = .ok (.aload_n 0, 1) := by decide +kernel
theorem dX11_keepsSums_11 : decode cX11_keepsSums 11 = .ok (.getfield 13, 3) := by decide +kernel
theorem dX11_keepsSums_14 : decode cX11_keepsSums 14 = .ok (.sipush 500, 3) := by decide +kernel
theorem dX11_keepsSums_17 : decode cX11_keepsSums 17 = .ok (.iload_n 2, 1) := by decide +kernel
theorem dX11_keepsSums_18 : decode cX11_keepsSums 18 = .ok (.iadd, 1) := by decide +kernel
theorem dX11_keepsSums_19 : decode cX11_keepsSums 19 = .ok (.aload_n 0, 1) := by decide +kernel
theorem dX11_keepsSums_20 : decode cX11_keepsSums 20 = .ok (.getfield 13, 3) := by decide +kernel
theorem dX11_keepsSums_23 : decode cX11_keepsSums 23 = .ok (.iload_n 2, 1) := by decide +kernel
theorem dX11_keepsSums_24 : decode cX11_keepsSums 24 = .ok (.iaload, 1) := by decide +kernel
theorem dX11_keepsSums_25 : decode cX11_keepsSums 25 = .ok (.iastore, 1) := by decide +kernel
theorem dX11_keepsSums_26 : decode cX11_keepsSums 26 = .ok (.aload_n 0, 1) := by decide +kernel
theorem dX11_keepsSums_27 : decode cX11_keepsSums 27 = .ok (.getfield 16, 3) := by decide +kernel
theorem dX11_keepsSums_30 : decode cX11_keepsSums 30 = .ok (.sipush 500, 3) := by decide +kernel
theorem dX11_keepsSums_33 : decode cX11_keepsSums 33 = .ok (.iload_n 2, 1) := by decide +kernel
theorem dX11_keepsSums_34 : decode cX11_keepsSums 34 = .ok (.iadd, 1) := by decide +kernel
theorem dX11_keepsSums_35 : decode cX11_keepsSums 35 = .ok (.aload_n 0, 1) := by decide +kernel
theorem dX11_keepsSums_36 : decode cX11_keepsSums 36 = .ok (.getfield 16, 3) := by decide +kernel
theorem dX11_keepsSums_39 : decode cX11_keepsSums 39 = .ok (.iload_n 2, 1) := by decide +kernel
theorem dX11_keepsSums_40 : decode cX11_keepsSums 40 = .ok (.iaload, 1) := by decide +kernel
theorem dX11_keepsSums_41 : decode cX11_keepsSums 41 = .ok (.iastore, 1) := by decide +kernel
theorem dX11_keepsSums_42 : decode cX11_keepsSums 42 = .ok (.aload_n 0, 1) := by decide +kernel
theorem dX11_keepsSums_43 : decode cX11_keepsSums 43 = .ok (.getfield 19, 3) := by decide +kernel
theorem dX11_keepsSums_46 : decode cX11_keepsSums 46 = .ok (.sipush 500, 3) := by decide +kernel
theorem dX11_keepsSums_49 : decode cX11_keepsSums 49 = .ok (.iload_n 2, 1) := by decide +kernel
theorem dX11_keepsSums_50 : decode cX11_keepsSums 50 = .ok (.iadd, 1) := by decide +kernel
theorem dX11_keepsSums_51 : decode cX11_keepsSums 51 = .ok (.aload_n 0, 1) := by decide +kernel
theorem dX11_keepsSums_52 : decode cX11_keepsSums 52 = .ok (.getfield 19, 3) := by decide +kernel
theorem dX11_keepsSums_55 : decode cX11_keepsSums 55 = .ok (.iload_n 2, 1) := by decide +kernel
theorem dX11_keepsSums_56 : decode cX11_keepsSums 56 = .ok (.iaload, 1) := by decide +kernel
theorem dX11_keepsSums_57 : decode cX11_keepsSums 57 = .ok (.iastore, 1) := by decide +kernel
theorem dX11_keepsSums_58 : decode cX11_keepsSums 58 = .ok (.iinc 2 1, 3) := by decide +kernel
theorem dX11_keepsSums_61 : decode cX11_keepsSums 61 = .ok (.goto (-59), 3) := by decide +kernel
theorem dX11_keepsSums_64 : decode cX11_keepsSums 64 = .ok (.iload_n 1, 1) := by decide +kernel
theorem dX11_keepsSums_65 : decode cX11_keepsSums 65 = .ok (.istore_n 2, 1) := by decide +kernel
theorem dX11_keepsSums_66 : decode cX11_keepsSums 66 = .ok (.iload_n 2, 1) := by decide +kernel
theorem dX11_keepsSums_67 : decode cX11_keepsSums 67 = .ok (.aload_n 0, 1) := by decide +kernel
theorem dX11_keepsSums_68 : decode cX11_keepsSums 68 = .ok (.getfield 245, 3) := by decide +kernel
theorem dX11_keepsSums_71 : decode cX11_keepsSums 71 = .ok (.if_icmp .ge 81, 3) := by decide +kernel
theorem dX11_keepsSums_74 : decode cX11_keepsSums 74 = .ok (.aload_n 0, 1) := by decide +kernel
theorem dX11_keepsSums_75 : decode cX11_keepsSums 75 = .ok (.getfield 22, 3) := by decide +kernel
theorem dX11_keepsSums_78 : decode cX11_keepsSums 78 = .ok (.sipush 500, 3) := by decide +kernel
theorem dX11_keepsSums_81 : decode cX11_keepsSums 81 = .ok (.iload_n 2, 1) := by decide +kernel
theorem dX11_keepsSums_82 : decode cX11_keepsSums 82 = .ok (.iadd, 1) := by decide +kernel
theorem dX11_keepsSums_83 : decode cX11_keepsSums 83 = .ok (.sipush 500, 3) := by decide +kernel
theorem dX11_keepsSums_86 : decode cX11_keepsSums 86 = .ok (.aload_n 0, 1) := by decide +kernel
theorem dX11_keepsSums_87 : decode cX11_keepsSums 87 = .ok (.getfield 22, 3) := by decide +kernel
theorem dX11_keepsSums_90 : decode cX11_keepsSums 90 = .ok (.iload_n 2, 1) := by decide +kernel
theorem dX11_keepsSums_91 : decode cX11_keepsSums 91 = .ok (.iaload, 1) := by decide +kernel
theorem dX11_keepsSums_92 : decode cX11_keepsSums 92 = .ok (.iadd, 1) := by decide +kernel
theorem dX11_keepsSums_93 : decode cX11_keepsSums 93 = .ok (.iastore, 1) := by decide +kernel
theorem dX11_keepsSums_94 : decode cX11_keepsSums 94 = .ok (.aload_n 0, 1) := by decide +kernel
theorem dX11_keepsSums_95 : decode cX11_keepsSums 95 = .ok (.getfield 25, 3) := by decide +kernel
theorem dX11_keepsSums_98 : decode cX11_keepsSums 98 = .ok (.sipush 500, 3) := by decide +kernel
theorem dX11_keepsSums_101 : decode cX11_keepsSums 101 = .ok (.iload_n 2, 1) := by decide +kernel
theorem dX11_keepsSums_102 : decode cX11_keepsSums 102 = .ok (.iadd, 1) := by decide +kernel
theorem dX11_keepsSums_103 : decode cX11_keepsSums 103 = .ok (.sipush 500, 3) := by decide +kernel
theorem dX11_keepsSums_106 : decode cX11_keepsSums 106 = .ok (.aload_n 0, 1) := by decide +kernel
theorem dX11_keepsSums_107 : decode cX11_keepsSums 107 = .ok (.getfield 25, 3) := by decide +kernel
theorem dX11_keepsSums_110 : decode cX11_keepsSums 110 = .ok (.iload_n 2, 1) := by decide +kernel
theorem dX11_keepsSums_111 : decode cX11_keepsSums 111 = .ok (.iaload, 1) := by decide +kernel
theorem dX11_keepsSums_112 : decode cX11_keepsSums 112 = .ok (.iadd, 1) := by decide +kernel
theorem dX11_keepsSums_113 : decode cX11_keepsSums 113 = .ok (.iastore, 1) := by decide +kernel
theorem dX11_keepsSums_114 : decode cX11_keepsSums 114 = .ok (.aload_n 0, 1) := by decide +kernel
theorem dX11_keepsSums_115 : decode cX11_keepsSums 115 = .ok (.getfield 28, 3) := by decide +kernel
theorem dX11_keepsSums_118 : decode cX11_keepsSums 118 = .ok (.sipush 500, 3) := by decide +kernel
theorem dX11_keepsSums_121 : decode cX11_keepsSums 121 = .ok (.iload_n 2, 1) := by decide +kernel
theorem dX11_keepsSums_122 : decode cX11_keepsSums 122 = .ok (.iadd, 1) := by decide +kernel
theorem dX11_keepsSums_123 : decode cX11_keepsSums 123 = .ok (.aload_n 0, 1) := by decide +kernel
theorem dX11_keepsSums_124 : decode cX11_keepsSums 124 = .ok (.getfield 28, 3) := by decide +kernel
theorem dX11_keepsSums_127 : decode cX11_keepsSums 127 = .ok (.iload_n 2, 1) := by decide +kernel
theorem dX11_keepsSums_128 : decode cX11_keepsSums 128 = .ok (.iaload, 1) := by decide +kernel
theorem dX11_keepsSums_129 : decode cX11_keepsSums 129 = .ok (.iastore, 1) := by decide +kernel
theorem dX11_keepsSums_130 : decode cX11_keepsSums 130 = .ok (.aload_n 0, 1) := by decide +kernel
theorem dX11_keepsSums_131 : decode cX11_keepsSums 131 = .ok (.getfield 31, 3) := by decide +kernel
theorem dX11_keepsSums_134 : decode cX11_keepsSums 134 = .ok (.sipush 500, 3) := by decide +kernel
theorem dX11_keepsSums_137 : decode cX11_keepsSums 137 = .ok (.iload_n 2, 1) := by decide +kernel
theorem dX11_keepsSums_138 : decode cX11_keepsSums 138 = .ok (.iadd, 1) := by decide +kernel
theorem dX11_keepsSums_139 : decode cX11_keepsSums 139 = .ok (.aload_n 0, 1) := by decide +kernel
theorem dX11_keepsSums_140 : decode cX11_keepsSums 140 = .ok (.getfield 31, 3) := by decide +kernel
theorem dX11_keepsSums_143 : decode cX11_keepsSums 143 = .ok (.iload_n 2, 1) := by decide +kernel
theorem dX11_keepsSums_144 : decode cX11_keepsSums 144 = .ok (.baload, 1) := by decide +kernel
theorem dX11_keepsSums_145 : decode cX11_keepsSums 145 = .ok (.bastore, 1) := by decide +kernel
theorem dX11_keepsSums_146 : decode cX11_keepsSums 146 = .ok (.iinc 2 1, 3) := by decide +kernel
theorem dX11_keepsSums_149 : decode cX11_keepsSums 149 = .ok (.goto (-83), 3) := by decide +kernel
theorem dX11_keepsSums_152 : decode cX11_keepsSums 152 = .ok (.return_, 1) := by decide +kernel
def mM_keepsSums_B66 (k66 : Int32 → hI → Option (hI)) (v2 : Int32) (I : hI) : Option (hI) :=
  if (I 0 16) ≤ v2 then
    some I
  else
    (h_g (h_in v2 1000) <|
    h_g (h_in ((500 : Int32) + v2) 1000) <|
    h_let (h_u I 5 ((500 : Int32) + v2).toNatClampNeg ((500 : Int32) + (I 5 v2.toNatClampNeg))) fun I3 =>
    h_g (h_in v2 1000) <|
    h_g (h_in ((500 : Int32) + v2) 1000) <|
    h_let (h_u I3 6 ((500 : Int32) + v2).toNatClampNeg ((500 : Int32) + (I3 6 v2.toNatClampNeg))) fun I6 =>
    h_g (h_in v2 1000) <|
    h_g (h_in ((500 : Int32) + v2) 1000) <|
    h_let (h_u I6 7 ((500 : Int32) + v2).toNatClampNeg (I6 7 v2.toNatClampNeg)) fun I9 =>
    h_g (h_in v2 1000) <|
    h_g (h_in ((500 : Int32) + v2) 1000) <|
    h_let (h_u I9 8 ((500 : Int32) + v2).toNatClampNeg (vp_nar .boolean (I9 8 v2.toNatClampNeg))) fun I12 =>
    k66 (v2 + (1 : Int32)) I12)
set_option maxHeartbeats 4000000 in
theorem sM_keepsSums_B66 (d : Nat) (hd : 0 ≤ d) (k66 : Int32 → hI → Option (hI)) (hk66 : ∀ (v2 : Int32) (I : hI) (J : hJ) (q : hI), k66 v2 I = some q → AW hFT cX11_keepsSums 3 none RX11 kdM d [(0, .ref 0), (2, .int v2)] 66 [] (I, J, RMm) none (q, J, RMm)) (v2 : Int32) (I : hI) (J : hJ) (q : hI) (h : mM_keepsSums_B66 k66 v2 I = some q) : AW hFT cX11_keepsSums 3 none RX11 kdM d [(0, .ref 0), (2, .int v2)] 66 [] (I, J, RMm) none (q, J, RMm) := by
  unfold mM_keepsSums_B66 at h
  refine a_iload_n dX11_keepsSums_66 rfl rfl ?_
  refine a_aload_n dX11_keepsSums_67 rfl rfl ?_
  refine b_getI hK_11 km_0 (i := 16) rfl fl_11_245 rfl dX11_keepsSums_68 ?_
  refine a_icmp_ge (tgt := 152) dX11_keepsSums_71 (by decide) (fun c => ?_) (fun c => ?_)
  · replace h := h_iteT c h
    cases h
    exact a_vret dX11_keepsSums_152
  · replace h := h_iteF c h
    refine a_aload_n dX11_keepsSums_74 rfl rfl ?_
    refine b_getR hK_11 km_0 (i := 12) rfl fl_11_22 rfl rmm_12 dX11_keepsSums_75 ?_
    refine a_sipush dX11_keepsSums_78 sq_500 ?_
    refine a_iload_n dX11_keepsSums_81 rfl rfl ?_
    refine a_iadd dX11_keepsSums_82 ?_
    refine a_sipush dX11_keepsSums_83 sq_500 ?_
    refine a_aload_n dX11_keepsSums_86 rfl rfl ?_
    refine b_getR hK_11 km_0 (i := 12) rfl fl_11_22 rfl rmm_12 dX11_keepsSums_87 ?_
    refine a_iload_n dX11_keepsSums_90 rfl rfl ?_
    obtain ⟨g1, h⟩ := h_gS h
    refine b_iaload km_5 (h_inV g1) dX11_keepsSums_91 ?_
    refine a_iadd dX11_keepsSums_92 ?_
    obtain ⟨g2, h⟩ := h_gS h
    refine b_iastore km_5 (h_inV g2) dX11_keepsSums_93 ?_
    obtain ⟨I3, eI3, h⟩ := h_letS h
    refine a_memI eI3 ?_
    refine a_aload_n dX11_keepsSums_94 rfl rfl ?_
    refine b_getR hK_11 km_0 (i := 13) rfl fl_11_25 rfl rmm_13 dX11_keepsSums_95 ?_
    refine a_sipush dX11_keepsSums_98 sq_500 ?_
    refine a_iload_n dX11_keepsSums_101 rfl rfl ?_
    refine a_iadd dX11_keepsSums_102 ?_
    refine a_sipush dX11_keepsSums_103 sq_500 ?_
    refine a_aload_n dX11_keepsSums_106 rfl rfl ?_
    refine b_getR hK_11 km_0 (i := 13) rfl fl_11_25 rfl rmm_13 dX11_keepsSums_107 ?_
    refine a_iload_n dX11_keepsSums_110 rfl rfl ?_
    obtain ⟨g4, h⟩ := h_gS h
    refine b_iaload km_6 (h_inV g4) dX11_keepsSums_111 ?_
    refine a_iadd dX11_keepsSums_112 ?_
    obtain ⟨g5, h⟩ := h_gS h
    refine b_iastore km_6 (h_inV g5) dX11_keepsSums_113 ?_
    obtain ⟨I6, eI6, h⟩ := h_letS h
    refine a_memI eI6 ?_
    refine a_aload_n dX11_keepsSums_114 rfl rfl ?_
    refine b_getR hK_11 km_0 (i := 14) rfl fl_11_28 rfl rmm_14 dX11_keepsSums_115 ?_
    refine a_sipush dX11_keepsSums_118 sq_500 ?_
    refine a_iload_n dX11_keepsSums_121 rfl rfl ?_
    refine a_iadd dX11_keepsSums_122 ?_
    refine a_aload_n dX11_keepsSums_123 rfl rfl ?_
    refine b_getR hK_11 km_0 (i := 14) rfl fl_11_28 rfl rmm_14 dX11_keepsSums_124 ?_
    refine a_iload_n dX11_keepsSums_127 rfl rfl ?_
    obtain ⟨g7, h⟩ := h_gS h
    refine b_iaload km_7 (h_inV g7) dX11_keepsSums_128 ?_
    obtain ⟨g8, h⟩ := h_gS h
    refine b_iastore km_7 (h_inV g8) dX11_keepsSums_129 ?_
    obtain ⟨I9, eI9, h⟩ := h_letS h
    refine a_memI eI9 ?_
    refine a_aload_n dX11_keepsSums_130 rfl rfl ?_
    refine b_getR hK_11 km_0 (i := 15) rfl fl_11_31 rfl rmm_15 dX11_keepsSums_131 ?_
    refine a_sipush dX11_keepsSums_134 sq_500 ?_
    refine a_iload_n dX11_keepsSums_137 rfl rfl ?_
    refine a_iadd dX11_keepsSums_138 ?_
    refine a_aload_n dX11_keepsSums_139 rfl rfl ?_
    refine b_getR hK_11 km_0 (i := 15) rfl fl_11_31 rfl rmm_15 dX11_keepsSums_140 ?_
    refine a_iload_n dX11_keepsSums_143 rfl rfl ?_
    obtain ⟨g10, h⟩ := h_gS h
    refine b_zaload km_8 (h_inV g10) dX11_keepsSums_144 ?_
    obtain ⟨g11, h⟩ := h_gS h
    refine b_zastore km_8 (h_inV g11) dX11_keepsSums_145 ?_
    obtain ⟨I12, eI12, h⟩ := h_letS h
    refine a_memI eI12 ?_
    refine b_iinc (lv' := [(2, .int (v2 + (1 : Int32))), (0, .ref 0)]) dX11_keepsSums_146 rfl ic_1 (by decide) rfl ?_
    refine a_goto (tgt := 66) dX11_keepsSums_149 (by decide) ?_
    refine a_sub (lv' := [(0, .ref 0), (2, .int (v2 + (1 : Int32)))]) [1, 0] rfl ?_
    exact hk66 (v2 + (1 : Int32)) I12 J _ h
def mM_keepsSums_L66  : Nat → Int32 → hI → Option (hI)
  | 0 => fun _ _ => none
  | n + 1 => mM_keepsSums_B66 (mM_keepsSums_L66 n)
theorem sM_keepsSums_L66 (d : Nat) (hd : 0 ≤ d) : ∀ (n : Nat) (v2 : Int32) (I : hI) (J : hJ) (q : hI) (h : mM_keepsSums_L66 n v2 I = some q), AW hFT cX11_keepsSums 3 none RX11 kdM d [(0, .ref 0), (2, .int v2)] 66 [] (I, J, RMm) none (q, J, RMm)
  | 0, _, _, _, q, h => by cases h
  | n + 1, v2, I, J, q, h => sM_keepsSums_B66 d hd (mM_keepsSums_L66 n) (sM_keepsSums_L66 d hd n) v2 I J q h
def mM_keepsSums_B2 (k2 : Int32 → Int32 → hI → Option (hI)) (v1 : Int32) (v2 : Int32) (I : hI) : Option (hI) :=
  if (I 0 11) ≤ v2 then
    mM_keepsSums_L66 hF v1 I
  else
    (h_g (h_in v2 1000) <|
    h_g (h_in ((500 : Int32) + v2) 1000) <|
    h_let (h_u I 2 ((500 : Int32) + v2).toNatClampNeg (I 2 v2.toNatClampNeg)) fun I3 =>
    h_g (h_in v2 1000) <|
    h_g (h_in ((500 : Int32) + v2) 1000) <|
    h_let (h_u I3 3 ((500 : Int32) + v2).toNatClampNeg (I3 3 v2.toNatClampNeg)) fun I6 =>
    h_g (h_in v2 1000) <|
    h_g (h_in ((500 : Int32) + v2) 1000) <|
    h_let (h_u I6 4 ((500 : Int32) + v2).toNatClampNeg (I6 4 v2.toNatClampNeg)) fun I9 =>
    k2 v1 (v2 + (1 : Int32)) I9)
set_option maxHeartbeats 4000000 in
theorem sM_keepsSums_B2 (d : Nat) (hd : 0 ≤ d) (k2 : Int32 → Int32 → hI → Option (hI)) (hk2 : ∀ (v1 : Int32) (v2 : Int32) (I : hI) (J : hJ) (q : hI), k2 v1 v2 I = some q → AW hFT cX11_keepsSums 3 none RX11 kdM d [(0, .ref 0), (1, .int v1), (2, .int v2)] 2 [] (I, J, RMm) none (q, J, RMm)) (v1 : Int32) (v2 : Int32) (I : hI) (J : hJ) (q : hI) (h : mM_keepsSums_B2 k2 v1 v2 I = some q) : AW hFT cX11_keepsSums 3 none RX11 kdM d [(0, .ref 0), (1, .int v1), (2, .int v2)] 2 [] (I, J, RMm) none (q, J, RMm) := by
  unfold mM_keepsSums_B2 at h
  refine a_iload_n dX11_keepsSums_2 rfl rfl ?_
  refine a_aload_n dX11_keepsSums_3 rfl rfl ?_
  refine b_getI hK_11 km_0 (i := 11) rfl fl_11_238 rfl dX11_keepsSums_4 ?_
  refine a_icmp_ge (tgt := 64) dX11_keepsSums_7 (by decide) (fun c => ?_) (fun c => ?_)
  · replace h := h_iteT c h
    refine a_iload_n dX11_keepsSums_64 rfl rfl ?_
    refine a_istore_n (lv' := [(2, .int v1), (0, .ref 0), (1, .int v1)]) dX11_keepsSums_65 rfl (by decide) rfl ?_
    refine a_sub (lv' := [(0, .ref 0), (2, .int v1)]) [1, 0] rfl ?_
    exact sM_keepsSums_L66 d (by omega) hF v1 I J _ h
  · replace h := h_iteF c h
    refine a_aload_n dX11_keepsSums_10 rfl rfl ?_
    refine b_getR hK_11 km_0 (i := 8) rfl fl_11_13 rfl rmm_8 dX11_keepsSums_11 ?_
    refine a_sipush dX11_keepsSums_14 sq_500 ?_
    refine a_iload_n dX11_keepsSums_17 rfl rfl ?_
    refine a_iadd dX11_keepsSums_18 ?_
    refine a_aload_n dX11_keepsSums_19 rfl rfl ?_
    refine b_getR hK_11 km_0 (i := 8) rfl fl_11_13 rfl rmm_8 dX11_keepsSums_20 ?_
    refine a_iload_n dX11_keepsSums_23 rfl rfl ?_
    obtain ⟨g1, h⟩ := h_gS h
    refine b_iaload km_2 (h_inV g1) dX11_keepsSums_24 ?_
    obtain ⟨g2, h⟩ := h_gS h
    refine b_iastore km_2 (h_inV g2) dX11_keepsSums_25 ?_
    obtain ⟨I3, eI3, h⟩ := h_letS h
    refine a_memI eI3 ?_
    refine a_aload_n dX11_keepsSums_26 rfl rfl ?_
    refine b_getR hK_11 km_0 (i := 9) rfl fl_11_16 rfl rmm_9 dX11_keepsSums_27 ?_
    refine a_sipush dX11_keepsSums_30 sq_500 ?_
    refine a_iload_n dX11_keepsSums_33 rfl rfl ?_
    refine a_iadd dX11_keepsSums_34 ?_
    refine a_aload_n dX11_keepsSums_35 rfl rfl ?_
    refine b_getR hK_11 km_0 (i := 9) rfl fl_11_16 rfl rmm_9 dX11_keepsSums_36 ?_
    refine a_iload_n dX11_keepsSums_39 rfl rfl ?_
    obtain ⟨g4, h⟩ := h_gS h
    refine b_iaload km_3 (h_inV g4) dX11_keepsSums_40 ?_
    obtain ⟨g5, h⟩ := h_gS h
    refine b_iastore km_3 (h_inV g5) dX11_keepsSums_41 ?_
    obtain ⟨I6, eI6, h⟩ := h_letS h
    refine a_memI eI6 ?_
    refine a_aload_n dX11_keepsSums_42 rfl rfl ?_
    refine b_getR hK_11 km_0 (i := 10) rfl fl_11_19 rfl rmm_10 dX11_keepsSums_43 ?_
    refine a_sipush dX11_keepsSums_46 sq_500 ?_
    refine a_iload_n dX11_keepsSums_49 rfl rfl ?_
    refine a_iadd dX11_keepsSums_50 ?_
    refine a_aload_n dX11_keepsSums_51 rfl rfl ?_
    refine b_getR hK_11 km_0 (i := 10) rfl fl_11_19 rfl rmm_10 dX11_keepsSums_52 ?_
    refine a_iload_n dX11_keepsSums_55 rfl rfl ?_
    obtain ⟨g7, h⟩ := h_gS h
    refine b_iaload km_4 (h_inV g7) dX11_keepsSums_56 ?_
    obtain ⟨g8, h⟩ := h_gS h
    refine b_iastore km_4 (h_inV g8) dX11_keepsSums_57 ?_
    obtain ⟨I9, eI9, h⟩ := h_letS h
    refine a_memI eI9 ?_
    refine b_iinc (lv' := [(2, .int (v2 + (1 : Int32))), (0, .ref 0), (1, .int v1)]) dX11_keepsSums_58 rfl ic_1 (by decide) rfl ?_
    refine a_goto (tgt := 2) dX11_keepsSums_61 (by decide) ?_
    refine a_sub (lv' := [(0, .ref 0), (1, .int v1), (2, .int (v2 + (1 : Int32)))]) [1, 2, 0] rfl ?_
    exact hk2 v1 (v2 + (1 : Int32)) I9 J _ h
def mM_keepsSums_L2  : Nat → Int32 → Int32 → hI → Option (hI)
  | 0 => fun _ _ _ => none
  | n + 1 => mM_keepsSums_B2 (mM_keepsSums_L2 n)
theorem sM_keepsSums_L2 (d : Nat) (hd : 0 ≤ d) : ∀ (n : Nat) (v1 : Int32) (v2 : Int32) (I : hI) (J : hJ) (q : hI) (h : mM_keepsSums_L2 n v1 v2 I = some q), AW hFT cX11_keepsSums 3 none RX11 kdM d [(0, .ref 0), (1, .int v1), (2, .int v2)] 2 [] (I, J, RMm) none (q, J, RMm)
  | 0, _, _, _, _, q, h => by cases h
  | n + 1, v1, v2, I, J, q, h => sM_keepsSums_B2 d hd (mM_keepsSums_L2 n) (sM_keepsSums_L2 d hd n) v1 v2 I J q h
def mM_keepsSums  (v1 : Int32) (I : hI) : Option (hI) :=
  mM_keepsSums_L2 hF v1 v1 I
set_option maxHeartbeats 4000000 in
theorem sM_keepsSums (d : Nat) (hd : 0 ≤ d) (v1 : Int32) (I : hI) (J : hJ) (q : hI) (h : mM_keepsSums v1 I = some q) : HMet hFT yX11_keepsSums cX11_keepsSums 3 none kdM d [.ref 0, .int v1] (I, J, RMm) none (q, J, RMm) := by
  refine HMet.of (by decide) (Nat.le_of_ble_eq_true rfl) ?_
  show AW hFT cX11_keepsSums 3 none RX11 kdM d [(0, .ref 0), (1, .int v1)] 0 [] (I, J, RMm) none (q, J, RMm)
  unfold mM_keepsSums at h
  refine a_iload_n dX11_keepsSums_0 rfl rfl ?_
  refine a_istore_n (lv' := [(2, .int v1), (0, .ref 0), (1, .int v1)]) dX11_keepsSums_1 rfl (by decide) rfl ?_
  refine a_sub (lv' := [(0, .ref 0), (1, .int v1), (2, .int v1)]) [1, 2, 0] rfl ?_
  exact sM_keepsSums_L2 d (by omega) hF v1 v1 I J _ h
/-! CoinLoopsModel.on(II)I -/
theorem dX11_on_0 : decode cX11_on 0 = .ok (.iload_n 0, 1) := by decide +kernel
theorem dX11_on_1 : decode cX11_on 1 = .ok (.iconst (-1), 1) := by decide +kernel
theorem dX11_on_2 : decode cX11_on 2 = .ok (.if_icmp .ne 7, 3) := by decide +kernel
theorem dX11_on_5 : decode cX11_on 5 = .ok (.iconst (-1), 1) := by decide +kernel
theorem dX11_on_6 : decode cX11_on 6 = .ok (.goto 6, 3) := by decide +kernel
theorem dX11_on_9 : decode cX11_on 9 = .ok (.iload_n 0, 1) := by decide +kernel
theorem dX11_on_10 : decode cX11_on 10 = .ok (.iload_n 1, 1) := by decide +kernel
theorem dX11_on_11 : decode cX11_on 11 = .ok (.iadd, 1) := by decide +kernel
theorem dX11_on_12 : decode cX11_on 12 = .ok (.ireturn, 1) := by decide +kernel
def mM_on  (v0 : Int32) (v1 : Int32)  : Int32 :=
  if v0 = (-1 : Int32) then
    (-1 : Int32)
  else
    (v0 + v1)
set_option maxHeartbeats 4000000 in
theorem sM_on (d : Nat) (hd : 0 ≤ d) (v0 : Int32) (v1 : Int32) (I : hI) (J : hJ) (q : Int32) (h : mM_on v0 v1 = q) : HMet hFT yX11_on cX11_on 2 (some .int) kdM d [.int v0, .int v1] (I, J, RMm) (some (.int q)) (I, J, RMm) := by
  refine HMet.of (by decide) (Nat.le_of_ble_eq_true rfl) ?_
  show AW hFT cX11_on 2 (some .int) RX11 kdM d [(0, .int v0), (1, .int v1)] 0 [] (I, J, RMm) (some (.int q)) (I, J, RMm)
  unfold mM_on at h
  refine a_iload_n dX11_on_0 rfl rfl ?_
  refine a_iconst dX11_on_1 ic_m1 ?_
  refine a_icmp_ne (tgt := 9) dX11_on_2 (by decide) (fun c => ?_) (fun c => ?_)
  · replace h := h_iteF c h
    refine a_iload_n dX11_on_9 rfl rfl ?_
    refine a_iload_n dX11_on_10 rfl rfl ?_
    refine a_iadd dX11_on_11 ?_
    cases h
    exact a_iret dX11_on_12
  · replace h := h_iteT c h
    refine a_iconst dX11_on_5 ic_m1 ?_
    refine a_goto (tgt := 12) dX11_on_6 (by decide) ?_
    cases h
    exact a_iret dX11_on_12
/-! CoinLoopsModel.keepsStatements()V -/
theorem dX11_keepsStatements_0 : decode cX11_keepsStatements 0 = .ok (.iconst 0, 1) := by decide +kernel
theorem dX11_keepsStatements_1 : decode cX11_keepsStatements 1 = .ok (.istore_n 1, 1) := by decide +kernel
theorem dX11_keepsStatements_2 : decode cX11_keepsStatements 2 = .ok (.iload_n 1, 1) := by decide +kernel
theorem dX11_keepsStatements_3 : decode cX11_keepsStatements 3 = .ok (.aload_n 0, 1) := by decide +kernel
theorem dX11_keepsStatements_4 : decode cX11_keepsStatements 4 = .ok (.getfield 293, 3) := by decide +kernel
theorem dX11_keepsStatements_7 : decode cX11_keepsStatements 7 = .ok (.if_icmp .ge 153, 3) := by decide +kernel
theorem dX11_keepsStatements_10 : decode cX11_keepsStatements 10 = .ok (.bipush 24, 2) := by decide +kernel
theorem dX11_keepsStatements_12 : decode cX11_keepsStatements 12 = .ok (.iload_n 1, 1) := by decide +kernel
theorem dX11_keepsStatements_13 : decode cX11_keepsStatements 13 = .ok (.iadd, 1) := by decide +kernel
theorem dX11_keepsStatements_14 : decode cX11_keepsStatements 14 = .ok (.istore_n 2, 1) := by decide +kernel
theorem dX11_keepsStatements_15 : decode cX11_keepsStatements 15 = .ok (.aload_n 0, 1) := by decide +kernel
theorem dX11_keepsStatements_16 : decode cX11_keepsStatements 16 = .ok (.getfield 35, 3) := by decide +kernel
theorem dX11_keepsStatements_19 : decode cX11_keepsStatements 19 = .ok (.iload_n 2, 1) := by decide +kernel
theorem dX11_keepsStatements_20 : decode cX11_keepsStatements 20 = .ok (.aload_n 0, 1) := by decide +kernel
theorem dX11_keepsStatements_21 : decode cX11_keepsStatements 21 = .ok (.getfield 35, 3) := by decide +kernel
theorem dX11_keepsStatements_24 : decode cX11_keepsStatements 24 = .ok (.iload_n 1, 1) := by decide +kernel
theorem dX11_keepsStatements_25 : decode cX11_keepsStatements 25 = .ok (.iaload, 1) := by decide +kernel
theorem dX11_keepsStatements_26 : decode cX11_keepsStatements 26 = .ok (.iastore, 1) := by decide +kernel
theorem dX11_keepsStatements_27 : decode cX11_keepsStatements 27 = .ok (.aload_n 0, 1) := by decide +kernel
theorem dX11_keepsStatements_28 : decode cX11_keepsStatements 28 = .ok (.getfield 38, 3) := by decide +kernel
theorem dX11_keepsStatements_31 : decode cX11_keepsStatements 31 = .ok (.iload_n 2, 1) := by decide +kernel
theorem dX11_keepsStatements_32 : decode cX11_keepsStatements 32 = .ok (.aload_n 0, 1) := by decide +kernel
theorem dX11_keepsStatements_33 : decode cX11_keepsStatements 33 = .ok (.getfield 35, 3) := by decide +kernel
theorem dX11_keepsStatements_36 : decode cX11_keepsStatements 36 = .ok (.iload_n 1, 1) := by decide +kernel
theorem dX11_keepsStatements_37 : decode cX11_keepsStatements 37 = .ok (.iaload, 1) := by decide +kernel
theorem dX11_keepsStatements_38 : decode cX11_keepsStatements 38 = .ok (.ifCond .eq 13, 3) := by decide +kernel
theorem dX11_keepsStatements_41 : decode cX11_keepsStatements 41 = .ok (.aload_n 0, 1) := by decide +kernel
theorem dX11_keepsStatements_42 : decode cX11_keepsStatements 42 = .ok (.getfield 35, 3) := by decide +kernel
theorem dX11_keepsStatements_45 : decode cX11_keepsStatements 45 = .ok (.iload_n 1, 1) := by decide +kernel
theorem dX11_keepsStatements_46 : decode cX11_keepsStatements 46 = .ok (.iaload, 1) := by decide +kernel
theorem dX11_keepsStatements_47 : decode cX11_keepsStatements 47 = .ok (.iconst 1, 1) := by decide +kernel
theorem dX11_keepsStatements_48 : decode cX11_keepsStatements 48 = .ok (.if_icmp .ne 16, 3) := by decide +kernel
theorem dX11_keepsStatements_51 : decode cX11_keepsStatements 51 = .ok (.sipush 500, 3) := by decide +kernel
theorem dX11_keepsStatements_54 : decode cX11_keepsStatements 54 = .ok (.aload_n 0, 1) := by decide +kernel
theorem dX11_keepsStatements_55 : decode cX11_keepsStatements 55 = .ok (.getfield 38, 3) := by decide +kernel
theorem dX11_keepsStatements_58 : decode cX11_keepsStatements 58 = .ok (.iload_n 1, 1) := by decide +kernel
theorem dX11_keepsStatements_59 : decode cX11_keepsStatements 59 = .ok (.iaload, 1) := by decide +kernel
theorem dX11_keepsStatements_60 : decode cX11_keepsStatements 60 = .ok (.iadd, 1) := by decide +kernel
theorem dX11_keepsStatements_61 : decode cX11_keepsStatements 61 = .ok (.goto 9, 3) := by decide +kernel
theorem dX11_keepsStatements_64 : decode cX11_keepsStatements 64 = .ok (.aload_n 0, 1) := by decide +kernel
theorem dX11_keepsStatements_65 : decode cX11_keepsStatements 65 = .ok (.getfield 38, 3) := by decide +kernel
theorem dX11_keepsStatements_68 : decode cX11_keepsStatements 68 = .ok (.iload_n 1, 1) := by decide +kernel
theorem dX11_keepsStatements_69 : decode cX11_keepsStatements 69 = .ok (.iaload, 1) := by decide +kernel
theorem dX11_keepsStatements_70 : decode cX11_keepsStatements 70 = .ok (.iastore, 1) := by decide +kernel
theorem dX11_keepsStatements_71 : decode cX11_keepsStatements 71 = .ok (.aload_n 0, 1) := by decide +kernel
theorem dX11_keepsStatements_72 : decode cX11_keepsStatements 72 = .ok (.getfield 41, 3) := by decide +kernel
theorem dX11_keepsStatements_75 : decode cX11_keepsStatements 75 = .ok (.iload_n 2, 1) := by decide +kernel
theorem dX11_keepsStatements_76 : decode cX11_keepsStatements 76 = .ok (.sipush 500, 3) := by decide +kernel
theorem dX11_keepsStatements_79 : decode cX11_keepsStatements 79 = .ok (.aload_n 0, 1) := by decide +kernel
theorem dX11_keepsStatements_80 : decode cX11_keepsStatements 80 = .ok (.getfield 41, 3) := by decide +kernel
theorem dX11_keepsStatements_83 : decode cX11_keepsStatements 83 = .ok (.iload_n 1, 1) := by decide +kernel
theorem dX11_keepsStatements_84 : decode cX11_keepsStatements 84 = .ok (.iaload, 1) := by decide +kernel
theorem dX11_keepsStatements_85 : decode cX11_keepsStatements 85 = .ok (.iadd, 1) := by decide +kernel
theorem dX11_keepsStatements_86 : decode cX11_keepsStatements 86 = .ok (.iastore, 1) := by decide +kernel
theorem dX11_keepsStatements_87 : decode cX11_keepsStatements 87 = .ok (.aload_n 0, 1) := by decide +kernel
theorem dX11_keepsStatements_88 : decode cX11_keepsStatements 88 = .ok (.getfield 44, 3) := by decide +kernel
theorem dX11_keepsStatements_91 : decode cX11_keepsStatements 91 = .ok (.iload_n 2, 1) := by decide +kernel
theorem dX11_keepsStatements_92 : decode cX11_keepsStatements 92 = .ok (.sipush 500, 3) := by decide +kernel
theorem dX11_keepsStatements_95 : decode cX11_keepsStatements 95 = .ok (.aload_n 0, 1) := by decide +kernel
theorem dX11_keepsStatements_96 : decode cX11_keepsStatements 96 = .ok (.getfield 44, 3) := by decide +kernel
theorem dX11_keepsStatements_99 : decode cX11_keepsStatements 99 = .ok (.iload_n 1, 1) := by decide +kernel
theorem dX11_keepsStatements_100 : decode cX11_keepsStatements 100 = .ok (.iaload, 1) := by decide +kernel
theorem dX11_keepsStatements_101 : decode cX11_keepsStatements 101 = .ok (.iadd, 1) := by decide +kernel
theorem dX11_keepsStatements_102 : decode cX11_keepsStatements 102 = .ok (.iastore, 1) := by decide +kernel
theorem dX11_keepsStatements_103 : decode cX11_keepsStatements 103 = .ok (.aload_n 0, 1) := by decide +kernel
theorem dX11_keepsStatements_104 : decode cX11_keepsStatements 104 = .ok (.getfield 47, 3) := by decide +kernel
theorem dX11_keepsStatements_107 : decode cX11_keepsStatements 107 = .ok (.iload_n 2, 1) := by decide +kernel
theorem dX11_keepsStatements_108 : decode cX11_keepsStatements 108 = .ok (.aload_n 0, 1) := by decide +kernel
theorem dX11_keepsStatements_109 : decode cX11_keepsStatements 109 = .ok (.getfield 47, 3) := by decide +kernel
theorem dX11_keepsStatements_112 : decode cX11_keepsStatements 112 = .ok (.iload_n 1, 1) := by decide +kernel
theorem dX11_keepsStatements_113 : decode cX11_keepsStatements 113 = .ok (.iaload, 1) := by decide +kernel
theorem dX11_keepsStatements_114 : decode cX11_keepsStatements 114 = .ok (.bipush 24, 2) := by decide +kernel
theorem dX11_keepsStatements_116 : decode cX11_keepsStatements 116 = .ok (.invokestatic 348, 3) := by decide +kernel
theorem dX11_keepsStatements_119 : decode cX11_keepsStatements 119 = .ok (.iastore, 1) := by decide +kernel
theorem dX11_keepsStatements_120 : decode cX11_keepsStatements 120 = .ok (.aload_n 0, 1) := by decide +kernel
theorem dX11_keepsStatements_121 : decode cX11_keepsStatements 121 = .ok (.getfield 50, 3) := by decide +kernel
theorem dX11_keepsStatements_124 : decode cX11_keepsStatements 124 = .ok (.iload_n 2, 1) := by decide +kernel
theorem dX11_keepsStatements_125 : decode cX11_keepsStatements 125 = .ok (.aload_n 0, 1) := by decide +kernel
theorem dX11_keepsStatements_126 : decode cX11_keepsStatements 126 = .ok (.getfield 50, 3) := by decide +kernel
theorem dX11_keepsStatements_129 : decode cX11_keepsStatements 129 = .ok (.iload_n 1, 1) := by decide +kernel
theorem dX11_keepsStatements_130 : decode cX11_keepsStatements 130 = .ok (.iaload, 1) := by decide +kernel
theorem dX11_keepsStatements_131 : decode cX11_keepsStatements 131 = .ok (.bipush 24, 2) := by decide +kernel
theorem dX11_keepsStatements_133 : decode cX11_keepsStatements 133 = .ok (.invokestatic 348, 3) := by decide +kernel
theorem dX11_keepsStatements_136 : decode cX11_keepsStatements 136 = .ok (.iastore, 1) := by decide +kernel
theorem dX11_keepsStatements_137 : decode cX11_keepsStatements 137 = .ok (.aload_n 0, 1) := by decide +kernel
theorem dX11_keepsStatements_138 : decode cX11_keepsStatements 138 = .ok (.getfield 53, 3) := by decide +kernel
theorem dX11_keepsStatements_141 : decode cX11_keepsStatements 141 = .ok (.iload_n 2, 1) := by decide +kernel
theorem dX11_keepsStatements_142 : decode cX11_keepsStatements 142 = .ok (.aload_n 0, 1) := by decide +kernel
theorem dX11_keepsStatements_143 : decode cX11_keepsStatements 143 = .ok (.getfield 53, 3) := by decide +kernel
theorem dX11_keepsStatements_146 : decode cX11_keepsStatements 146 = .ok (.iload_n 1, 1) := by decide +kernel
theorem dX11_keepsStatements_147 : decode cX11_keepsStatements 147 = .ok (.iaload, 1) := by decide +kernel
theorem dX11_keepsStatements_148 : decode cX11_keepsStatements 148 = .ok (.bipush 24, 2) := by decide +kernel
theorem dX11_keepsStatements_150 : decode cX11_keepsStatements 150 = .ok (.invokestatic 348, 3) := by decide +kernel
theorem dX11_keepsStatements_153 : decode cX11_keepsStatements 153 = .ok (.iastore, 1) := by decide +kernel
theorem dX11_keepsStatements_154 : decode cX11_keepsStatements 154 = .ok (.iinc 1 1, 3) := by decide +kernel
theorem dX11_keepsStatements_157 : decode cX11_keepsStatements 157 = .ok (.goto (-155), 3) := by decide +kernel
theorem dX11_keepsStatements_160 : decode cX11_keepsStatements 160 = .ok (.return_, 1) := by decide +kernel
def mM_keepsStatements_70 (k2 : Int32 → hI → Option (hI)) (v1 : Int32) (v2 : Int32) (vs1 : Int32) (vs2 : Int32) (I : hI) : Option (hI) :=
  h_g (h_in vs1 48) <|
  h_let (h_u I 10 vs1.toNatClampNeg vs2) fun I2 =>
  h_g (h_in v1 48) <|
  h_g (h_in v2 48) <|
  h_let (h_u I2 11 v2.toNatClampNeg ((500 : Int32) + (I2 11 v1.toNatClampNeg))) fun I5 =>
  h_g (h_in v1 48) <|
  h_g (h_in v2 48) <|
  h_let (h_u I5 12 v2.toNatClampNeg ((500 : Int32) + (I5 12 v1.toNatClampNeg))) fun I8 =>
  h_g (h_in v1 48) <|
  h_g (h_in v2 48) <|
  h_let (h_u I8 13 v2.toNatClampNeg (mM_on (I8 13 v1.toNatClampNeg) (24 : Int32))) fun I11 =>
  h_g (h_in v1 48) <|
  h_g (h_in v2 48) <|
  h_let (h_u I11 14 v2.toNatClampNeg (mM_on (I11 14 v1.toNatClampNeg) (24 : Int32))) fun I14 =>
  h_g (h_in v1 48) <|
  h_g (h_in v2 48) <|
  h_let (h_u I14 15 v2.toNatClampNeg (mM_on (I14 15 v1.toNatClampNeg) (24 : Int32))) fun I17 =>
  k2 (v1 + (1 : Int32)) I17
set_option maxHeartbeats 4000000 in
theorem sM_keepsStatements_70 (d : Nat) (hd : 0 + 1 ≤ d) (k2 : Int32 → hI → Option (hI)) (hk2 : ∀ (v1 : Int32) (I : hI) (J : hJ) (q : hI), k2 v1 I = some q → AW hFT cX11_keepsStatements 3 none RX11 kdM d [(0, .ref 0), (1, .int v1)] 2 [] (I, J, RMm) none (q, J, RMm)) (v1 : Int32) (v2 : Int32) (vs1 : Int32) (vs2 : Int32) (I : hI) (J : hJ) (q : hI) (h : mM_keepsStatements_70 k2 v1 v2 vs1 vs2 I = some q) : AW hFT cX11_keepsStatements 3 none RX11 kdM d [(0, .ref 0), (1, .int v1), (2, .int v2)] 70 [.int vs2, .int vs1, .ref 10] (I, J, RMm) none (q, J, RMm) := by
  obtain ⟨d0, rfl, hd0⟩ := h_mono hd
  unfold mM_keepsStatements_70 at h
  obtain ⟨g1, h⟩ := h_gS h
  refine b_iastore km_10 (h_inV g1) dX11_keepsStatements_70 ?_
  obtain ⟨I2, eI2, h⟩ := h_letS h
  refine a_memI eI2 ?_
  refine a_aload_n dX11_keepsStatements_71 rfl rfl ?_
  refine b_getR hK_11 km_0 (i := 19) rfl fl_11_41 rfl rmm_19 dX11_keepsStatements_72 ?_
  refine a_iload_n dX11_keepsStatements_75 rfl rfl ?_
  refine a_sipush dX11_keepsStatements_76 sq_500 ?_
  refine a_aload_n dX11_keepsStatements_79 rfl rfl ?_
  refine b_getR hK_11 km_0 (i := 19) rfl fl_11_41 rfl rmm_19 dX11_keepsStatements_80 ?_
  refine a_iload_n dX11_keepsStatements_83 rfl rfl ?_
  obtain ⟨g3, h⟩ := h_gS h
  refine b_iaload km_11 (h_inV g3) dX11_keepsStatements_84 ?_
  refine a_iadd dX11_keepsStatements_85 ?_
  obtain ⟨g4, h⟩ := h_gS h
  refine b_iastore km_11 (h_inV g4) dX11_keepsStatements_86 ?_
  obtain ⟨I5, eI5, h⟩ := h_letS h
  refine a_memI eI5 ?_
  refine a_aload_n dX11_keepsStatements_87 rfl rfl ?_
  refine b_getR hK_11 km_0 (i := 20) rfl fl_11_44 rfl rmm_20 dX11_keepsStatements_88 ?_
  refine a_iload_n dX11_keepsStatements_91 rfl rfl ?_
  refine a_sipush dX11_keepsStatements_92 sq_500 ?_
  refine a_aload_n dX11_keepsStatements_95 rfl rfl ?_
  refine b_getR hK_11 km_0 (i := 20) rfl fl_11_44 rfl rmm_20 dX11_keepsStatements_96 ?_
  refine a_iload_n dX11_keepsStatements_99 rfl rfl ?_
  obtain ⟨g6, h⟩ := h_gS h
  refine b_iaload km_12 (h_inV g6) dX11_keepsStatements_100 ?_
  refine a_iadd dX11_keepsStatements_101 ?_
  obtain ⟨g7, h⟩ := h_gS h
  refine b_iastore km_12 (h_inV g7) dX11_keepsStatements_102 ?_
  obtain ⟨I8, eI8, h⟩ := h_letS h
  refine a_memI eI8 ?_
  refine a_aload_n dX11_keepsStatements_103 rfl rfl ?_
  refine b_getR hK_11 km_0 (i := 21) rfl fl_11_47 rfl rmm_21 dX11_keepsStatements_104 ?_
  refine a_iload_n dX11_keepsStatements_107 rfl rfl ?_
  refine a_aload_n dX11_keepsStatements_108 rfl rfl ?_
  refine b_getR hK_11 km_0 (i := 21) rfl fl_11_47 rfl rmm_21 dX11_keepsStatements_109 ?_
  refine a_iload_n dX11_keepsStatements_112 rfl rfl ?_
  obtain ⟨g9, h⟩ := h_gS h
  refine b_iaload km_13 (h_inV g9) dX11_keepsStatements_113 ?_
  refine a_bipush dX11_keepsStatements_114 bp_24 ?_
  refine a_callS1 [.int v2, .ref 13] yy_X11_on ml_11_348 (sM_on _ (by omega) (I8 13 v1.toNatClampNeg) (24 : Int32) I8 J _ rfl) rfl rfl (Nat.le_of_ble_eq_true rfl) dX11_keepsStatements_116 ?_
  obtain ⟨g10, h⟩ := h_gS h
  refine b_iastore km_13 (h_inV g10) dX11_keepsStatements_119 ?_
  obtain ⟨I11, eI11, h⟩ := h_letS h
  refine a_memI eI11 ?_
  refine a_aload_n dX11_keepsStatements_120 rfl rfl ?_
  refine b_getR hK_11 km_0 (i := 22) rfl fl_11_50 rfl rmm_22 dX11_keepsStatements_121 ?_
  refine a_iload_n dX11_keepsStatements_124 rfl rfl ?_
  refine a_aload_n dX11_keepsStatements_125 rfl rfl ?_
  refine b_getR hK_11 km_0 (i := 22) rfl fl_11_50 rfl rmm_22 dX11_keepsStatements_126 ?_
  refine a_iload_n dX11_keepsStatements_129 rfl rfl ?_
  obtain ⟨g12, h⟩ := h_gS h
  refine b_iaload km_14 (h_inV g12) dX11_keepsStatements_130 ?_
  refine a_bipush dX11_keepsStatements_131 bp_24 ?_
  refine a_callS1 [.int v2, .ref 14] yy_X11_on ml_11_348 (sM_on _ (by omega) (I11 14 v1.toNatClampNeg) (24 : Int32) I11 J _ rfl) rfl rfl (Nat.le_of_ble_eq_true rfl) dX11_keepsStatements_133 ?_
  obtain ⟨g13, h⟩ := h_gS h
  refine b_iastore km_14 (h_inV g13) dX11_keepsStatements_136 ?_
  obtain ⟨I14, eI14, h⟩ := h_letS h
  refine a_memI eI14 ?_
  refine a_aload_n dX11_keepsStatements_137 rfl rfl ?_
  refine b_getR hK_11 km_0 (i := 23) rfl fl_11_53 rfl rmm_23 dX11_keepsStatements_138 ?_
  refine a_iload_n dX11_keepsStatements_141 rfl rfl ?_
  refine a_aload_n dX11_keepsStatements_142 rfl rfl ?_
  refine b_getR hK_11 km_0 (i := 23) rfl fl_11_53 rfl rmm_23 dX11_keepsStatements_143 ?_
  refine a_iload_n dX11_keepsStatements_146 rfl rfl ?_
  obtain ⟨g15, h⟩ := h_gS h
  refine b_iaload km_15 (h_inV g15) dX11_keepsStatements_147 ?_
  refine a_bipush dX11_keepsStatements_148 bp_24 ?_
  refine a_callS1 [.int v2, .ref 15] yy_X11_on ml_11_348 (sM_on _ (by omega) (I14 15 v1.toNatClampNeg) (24 : Int32) I14 J _ rfl) rfl rfl (Nat.le_of_ble_eq_true rfl) dX11_keepsStatements_150 ?_
  obtain ⟨g16, h⟩ := h_gS h
  refine b_iastore km_15 (h_inV g16) dX11_keepsStatements_153 ?_
  obtain ⟨I17, eI17, h⟩ := h_letS h
  refine a_memI eI17 ?_
  refine b_iinc (lv' := [(1, .int (v1 + (1 : Int32))), (0, .ref 0), (2, .int v2)]) dX11_keepsStatements_154 rfl ic_1 (by decide) rfl ?_
  refine a_goto (tgt := 2) dX11_keepsStatements_157 (by decide) ?_
  refine a_sub (lv' := [(0, .ref 0), (1, .int (v1 + (1 : Int32)))]) [1, 0] rfl ?_
  exact hk2 (v1 + (1 : Int32)) I17 J _ h
def mM_keepsStatements_B2 (k2 : Int32 → hI → Option (hI)) (v1 : Int32) (I : hI) : Option (hI) :=
  if (I 0 24) ≤ v1 then
    some I
  else
    (h_let ((24 : Int32) + v1) fun v2x0 =>
    h_g (h_in v1 48) <|
    h_g (h_in v2x0 48) <|
    h_let (h_u I 9 v2x0.toNatClampNeg (I 9 v1.toNatClampNeg)) fun I4 =>
    h_g (h_in v1 48) <|
    if (I4 9 v1.toNatClampNeg) = 0 then
      (h_g (h_in v1 48) <|
      mM_keepsStatements_70 k2 v1 v2x0 v2x0 ((500 : Int32) + (I4 10 v1.toNatClampNeg)) I4)
    else
      (h_g (h_in v1 48) <|
      if (I4 9 v1.toNatClampNeg) = (1 : Int32) then
        (h_g (h_in v1 48) <|
        mM_keepsStatements_70 k2 v1 v2x0 v2x0 ((500 : Int32) + (I4 10 v1.toNatClampNeg)) I4)
      else
        (h_g (h_in v1 48) <|
        mM_keepsStatements_70 k2 v1 v2x0 v2x0 (I4 10 v1.toNatClampNeg) I4)))
set_option maxHeartbeats 4000000 in
theorem sM_keepsStatements_B2 (d : Nat) (hd : 0 + 1 ≤ d) (k2 : Int32 → hI → Option (hI)) (hk2 : ∀ (v1 : Int32) (I : hI) (J : hJ) (q : hI), k2 v1 I = some q → AW hFT cX11_keepsStatements 3 none RX11 kdM d [(0, .ref 0), (1, .int v1)] 2 [] (I, J, RMm) none (q, J, RMm)) (v1 : Int32) (I : hI) (J : hJ) (q : hI) (h : mM_keepsStatements_B2 k2 v1 I = some q) : AW hFT cX11_keepsStatements 3 none RX11 kdM d [(0, .ref 0), (1, .int v1)] 2 [] (I, J, RMm) none (q, J, RMm) := by
  obtain ⟨d0, rfl, hd0⟩ := h_mono hd
  unfold mM_keepsStatements_B2 at h
  refine a_iload_n dX11_keepsStatements_2 rfl rfl ?_
  refine a_aload_n dX11_keepsStatements_3 rfl rfl ?_
  refine b_getI hK_11 km_0 (i := 24) rfl fl_11_293 rfl dX11_keepsStatements_4 ?_
  refine a_icmp_ge (tgt := 160) dX11_keepsStatements_7 (by decide) (fun c => ?_) (fun c => ?_)
  · replace h := h_iteT c h
    cases h
    exact a_vret dX11_keepsStatements_160
  · replace h := h_iteF c h
    refine a_bipush dX11_keepsStatements_10 bp_24 ?_
    refine a_iload_n dX11_keepsStatements_12 rfl rfl ?_
    refine a_iadd dX11_keepsStatements_13 ?_
    obtain ⟨v2x0, ev2x0, h⟩ := h_letS h
    refine a_topI ev2x0 ?_
    refine a_istore_n (lv' := [(2, .int v2x0), (0, .ref 0), (1, .int v1)]) dX11_keepsStatements_14 rfl (by decide) rfl ?_
    refine a_aload_n dX11_keepsStatements_15 rfl rfl ?_
    refine b_getR hK_11 km_0 (i := 17) rfl fl_11_35 rfl rmm_17 dX11_keepsStatements_16 ?_
    refine a_iload_n dX11_keepsStatements_19 rfl rfl ?_
    refine a_aload_n dX11_keepsStatements_20 rfl rfl ?_
    refine b_getR hK_11 km_0 (i := 17) rfl fl_11_35 rfl rmm_17 dX11_keepsStatements_21 ?_
    refine a_iload_n dX11_keepsStatements_24 rfl rfl ?_
    obtain ⟨g2, h⟩ := h_gS h
    refine b_iaload km_9 (h_inV g2) dX11_keepsStatements_25 ?_
    obtain ⟨g3, h⟩ := h_gS h
    refine b_iastore km_9 (h_inV g3) dX11_keepsStatements_26 ?_
    obtain ⟨I4, eI4, h⟩ := h_letS h
    refine a_memI eI4 ?_
    refine a_aload_n dX11_keepsStatements_27 rfl rfl ?_
    refine b_getR hK_11 km_0 (i := 18) rfl fl_11_38 rfl rmm_18 dX11_keepsStatements_28 ?_
    refine a_iload_n dX11_keepsStatements_31 rfl rfl ?_
    refine a_aload_n dX11_keepsStatements_32 rfl rfl ?_
    refine b_getR hK_11 km_0 (i := 17) rfl fl_11_35 rfl rmm_17 dX11_keepsStatements_33 ?_
    refine a_iload_n dX11_keepsStatements_36 rfl rfl ?_
    obtain ⟨g5, h⟩ := h_gS h
    refine b_iaload km_9 (h_inV g5) dX11_keepsStatements_37 ?_
    refine a_if_eq (tgt := 51) dX11_keepsStatements_38 (by decide) (fun c => ?_) (fun c => ?_)
    · replace h := h_iteT c h
      refine a_sipush dX11_keepsStatements_51 sq_500 ?_
      refine a_aload_n dX11_keepsStatements_54 rfl rfl ?_
      refine b_getR hK_11 km_0 (i := 18) rfl fl_11_38 rfl rmm_18 dX11_keepsStatements_55 ?_
      refine a_iload_n dX11_keepsStatements_58 rfl rfl ?_
      obtain ⟨g6, h⟩ := h_gS h
      refine b_iaload km_10 (h_inV g6) dX11_keepsStatements_59 ?_
      refine a_iadd dX11_keepsStatements_60 ?_
      refine a_goto (tgt := 70) dX11_keepsStatements_61 (by decide) ?_
      refine a_sub (lv' := [(0, .ref 0), (1, .int v1), (2, .int v2x0)]) [1, 2, 0] rfl ?_
      exact sM_keepsStatements_70 (d0 + 1) (by omega) k2 hk2 v1 v2x0 v2x0 ((500 : Int32) + (I4 10 v1.toNatClampNeg)) I4 J _ h
    · replace h := h_iteF c h
      refine a_aload_n dX11_keepsStatements_41 rfl rfl ?_
      refine b_getR hK_11 km_0 (i := 17) rfl fl_11_35 rfl rmm_17 dX11_keepsStatements_42 ?_
      refine a_iload_n dX11_keepsStatements_45 rfl rfl ?_
      obtain ⟨g6, h⟩ := h_gS h
      refine b_iaload km_9 (h_inV g6) dX11_keepsStatements_46 ?_
      refine a_iconst dX11_keepsStatements_47 ic_1 ?_
      refine a_icmp_ne (tgt := 64) dX11_keepsStatements_48 (by decide) (fun c => ?_) (fun c => ?_)
      · replace h := h_iteF c h
        refine a_aload_n dX11_keepsStatements_64 rfl rfl ?_
        refine b_getR hK_11 km_0 (i := 18) rfl fl_11_38 rfl rmm_18 dX11_keepsStatements_65 ?_
        refine a_iload_n dX11_keepsStatements_68 rfl rfl ?_
        obtain ⟨g7, h⟩ := h_gS h
        refine b_iaload km_10 (h_inV g7) dX11_keepsStatements_69 ?_
        refine a_sub (lv' := [(0, .ref 0), (1, .int v1), (2, .int v2x0)]) [1, 2, 0] rfl ?_
        exact sM_keepsStatements_70 (d0 + 1) (by omega) k2 hk2 v1 v2x0 v2x0 (I4 10 v1.toNatClampNeg) I4 J _ h
      · replace h := h_iteT c h
        refine a_sipush dX11_keepsStatements_51 sq_500 ?_
        refine a_aload_n dX11_keepsStatements_54 rfl rfl ?_
        refine b_getR hK_11 km_0 (i := 18) rfl fl_11_38 rfl rmm_18 dX11_keepsStatements_55 ?_
        refine a_iload_n dX11_keepsStatements_58 rfl rfl ?_
        obtain ⟨g7, h⟩ := h_gS h
        refine b_iaload km_10 (h_inV g7) dX11_keepsStatements_59 ?_
        refine a_iadd dX11_keepsStatements_60 ?_
        refine a_goto (tgt := 70) dX11_keepsStatements_61 (by decide) ?_
        refine a_sub (lv' := [(0, .ref 0), (1, .int v1), (2, .int v2x0)]) [1, 2, 0] rfl ?_
        exact sM_keepsStatements_70 (d0 + 1) (by omega) k2 hk2 v1 v2x0 v2x0 ((500 : Int32) + (I4 10 v1.toNatClampNeg)) I4 J _ h
def mM_keepsStatements_L2  : Nat → Int32 → hI → Option (hI)
  | 0 => fun _ _ => none
  | n + 1 => mM_keepsStatements_B2 (mM_keepsStatements_L2 n)
theorem sM_keepsStatements_L2 (d : Nat) (hd : 0 + 1 ≤ d) : ∀ (n : Nat) (v1 : Int32) (I : hI) (J : hJ) (q : hI) (h : mM_keepsStatements_L2 n v1 I = some q), AW hFT cX11_keepsStatements 3 none RX11 kdM d [(0, .ref 0), (1, .int v1)] 2 [] (I, J, RMm) none (q, J, RMm)
  | 0, _, _, _, q, h => by cases h
  | n + 1, v1, I, J, q, h => sM_keepsStatements_B2 d hd (mM_keepsStatements_L2 n) (sM_keepsStatements_L2 d hd n) v1 I J q h
def mM_keepsStatements   (I : hI) : Option (hI) :=
  mM_keepsStatements_L2 hF (0 : Int32) I
set_option maxHeartbeats 4000000 in
theorem sM_keepsStatements (d : Nat) (hd : 0 + 1 ≤ d)  (I : hI) (J : hJ) (q : hI) (h : mM_keepsStatements I = some q) : HMet hFT yX11_keepsStatements cX11_keepsStatements 3 none kdM d [.ref 0] (I, J, RMm) none (q, J, RMm) := by
  obtain ⟨d0, rfl, hd0⟩ := h_mono hd
  refine HMet.of (by decide) (Nat.le_of_ble_eq_true rfl) ?_
  show AW hFT cX11_keepsStatements 3 none RX11 kdM (d0 + 1) [(0, .ref 0)] 0 [] (I, J, RMm) none (q, J, RMm)
  unfold mM_keepsStatements at h
  refine a_iconst dX11_keepsStatements_0 ic_0 ?_
  refine a_istore_n (lv' := [(1, .int (0 : Int32)), (0, .ref 0)]) dX11_keepsStatements_1 rfl (by decide) rfl ?_
  refine a_sub (lv' := [(0, .ref 0), (1, .int (0 : Int32))]) [1, 0] rfl ?_
  exact sM_keepsStatements_L2 (d0 + 1) (by omega) hF (0 : Int32) I J _ h
