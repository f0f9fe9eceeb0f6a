/-! CoinLoops.divisor(JJ)J -/
theorem dX10_divisor_0 : decode cX10_divisor 0 = .ok (.lload_n 0, 1) := by decide +kernel
theorem dX10_divisor_1 : decode cX10_divisor 1 = .ok (.invokestatic 306, 3) := by decide +kernel
theorem dX10_divisor_4 : decode cX10_divisor 4 = .ok (.lstore 4, 2) := by decide +kernel
theorem dX10_divisor_6 : decode cX10_divisor 6 = .ok (.lload_n 2, 1) := by decide +kernel
theorem dX10_divisor_7 : decode cX10_divisor 7 = .ok (.invokestatic 306, 3) := by decide +kernel
theorem dX10_divisor_10 : decode cX10_divisor 10 = .ok (.lstore 6, 2) := by decide +kernel
theorem dX10_divisor_12 : decode cX10_divisor 12 = .ok (.iconst 0, 1) := by decide +kernel
theorem dX10_divisor_13 : decode cX10_divisor 13 = .ok (.istore 8, 2) := by decide +kernel
theorem dX10_divisor_15 : decode cX10_divisor 15 = .ok (.iload 8, 2) := by decide +kernel
theorem dX10_divisor_17 : decode cX10_divisor 17 = .ok (.bipush 100, 2) := by decide +kernel
theorem dX10_divisor_19 : decode cX10_divisor 19 = .ok (.if_icmp .ge 31, 3) := by decide +kernel
theorem dX10_divisor_22 : decode cX10_divisor 22 = .ok (.lload 6, 2) := by decide +kernel
theorem dX10_divisor_24 : decode cX10_divisor 24 = .ok (.lconst 0, 1) := by decide +kernel
theorem dX10_divisor_25 : decode cX10_divisor 25 = .ok (.lcmp, 1) := by decide +kernel
theorem dX10_divisor_26 : decode cX10_divisor 26 = .ok (.ifCond .eq 24, 3) := by decide +kernel
theorem dX10_divisor_29 : decode cX10_divisor 29 = .ok (.lload 4, 2) := by decide +kernel
theorem dX10_divisor_31 : decode cX10_divisor 31 = .ok (.lload 6, 2) := by decide +kernel
theorem dX10_divisor_33 : decode cX10_divisor 33 = .ok (.lrem, 1) := by decide +kernel
theorem dX10_divisor_34 : decode cX10_divisor 34 = .ok (.lstore 9, 2) := by decide +kernel
theorem dX10_divisor_36 : decode cX10_divisor 36 = .ok (.lload 6, 2) := by decide +kernel
theorem dX10_divisor_38 : decode cX10_divisor 38 = .ok (.lstore 4, 2) := by decide +kernel
theorem dX10_divisor_40 : decode cX10_divisor 40 = .ok (.lload 9, 2) := by decide +kernel
theorem dX10_divisor_42 : decode cX10_divisor 42 = .ok (.lstore 6, 2) := by decide +kernel
theorem dX10_divisor_44 : decode cX10_divisor 44 = .ok (.iinc 8 1, 3) := by decide +kernel
theorem dX10_divisor_47 : decode cX10_divisor 47 = .ok (.goto (-32), 3) := by decide +kernel
theorem dX10_divisor_50 : decode cX10_divisor 50 = .ok (.lload 4, 2) := by decide +kernel
theorem dX10_divisor_52 : decode cX10_divisor 52 = .ok (.lreturn, 1) := by decide +kernel
def mC_divisor_B15 (k15 : Int64 → Int64 → Int32 → Option (Int64)) (v4 : Int64) (v6 : Int64) (v8 : Int32)  : Option (Int64) :=
  if (100 : Int32) ≤ v8 then
    some v4
  else
    (if v6 = (0 : Int64) then
      some v4
    else
      (h_g (h_nzL v6) <|
      h_let (v4 - v4 / v6 * v6) fun v9x1 =>
      k15 v6 v9x1 (v8 + (1 : Int32))))
set_option maxHeartbeats 4000000 in
theorem sC_divisor_B15 (d : Nat) (hd : 0 + 1 ≤ d) (k15 : Int64 → Int64 → Int32 → Option (Int64)) (hk15 : ∀ (v4 : Int64) (v6 : Int64) (v8 : Int32) (I : hI) (J : hJ) (B : Bool × Bool) (q : Int64), k15 v4 v6 v8 = some q → AW hFT cX10_divisor 11 (some .long) RX10 kdC d [(4, .long v4), (6, .long v6), (8, .int v8)] 15 [] (I, J, RM B) (some (.long q)) (I, J, RM B)) (v4 : Int64) (v6 : Int64) (v8 : Int32) (I : hI) (J : hJ) (B : Bool × Bool) (q : Int64) (h : mC_divisor_B15 k15 v4 v6 v8 = some q) : AW hFT cX10_divisor 11 (some .long) RX10 kdC d [(4, .long v4), (6, .long v6), (8, .int v8)] 15 [] (I, J, RM B) (some (.long q)) (I, J, RM B) := by
  obtain ⟨d0, rfl, hd0⟩ := h_mono hd
  unfold mC_divisor_B15 at h
  refine a_iload dX10_divisor_15 rfl ?_
  refine a_bipush dX10_divisor_17 bp_100 ?_
  refine a_icmp_ge (tgt := 50) dX10_divisor_19 (by decide) (fun c => ?_) (fun c => ?_)
  · replace h := h_iteT c h
    refine a_lload dX10_divisor_50 rfl ?_
    cases h
    exact a_lret dX10_divisor_52
  · replace h := h_iteF c h
    refine a_lload dX10_divisor_22 rfl ?_
    refine a_lconst dX10_divisor_24 lc_0 ?_
    refine a_lcmp_eq (tgt := 50) dX10_divisor_25 dX10_divisor_26 (by decide) (fun c => ?_) (fun c => ?_)
    · replace h := h_iteT c h
      refine a_lload dX10_divisor_50 rfl ?_
      cases h
      exact a_lret dX10_divisor_52
    · replace h := h_iteF c h
      refine a_lload dX10_divisor_29 rfl ?_
      refine a_lload dX10_divisor_31 rfl ?_
      obtain ⟨g1, h⟩ := h_gS h
      refine a_lrem dX10_divisor_33 (h_nzLV g1) ?_
      obtain ⟨v9x1, ev9x1, h⟩ := h_letS h
      refine a_topJ ev9x1 ?_
      refine a_lstore (lv' := [(9, .long v9x1), (4, .long v4), (6, .long v6), (8, .int v8)]) dX10_divisor_34 (by decide) rfl ?_
      refine a_lload dX10_divisor_36 rfl ?_
      refine a_lstore (lv' := [(4, .long v6), (9, .long v9x1), (6, .long v6), (8, .int v8)]) dX10_divisor_38 (by decide) rfl ?_
      refine a_lload dX10_divisor_40 rfl ?_
      refine a_lstore (lv' := [(6, .long v9x1), (4, .long v6), (9, .long v9x1), (8, .int v8)]) dX10_divisor_42 (by decide) rfl ?_
      refine b_iinc (lv' := [(8, .int (v8 + (1 : Int32))), (6, .long v9x1), (4, .long v6), (9, .long v9x1)]) dX10_divisor_44 rfl ic_1 (by decide) rfl ?_
      refine a_goto (tgt := 15) dX10_divisor_47 (by decide) ?_
      refine a_sub (lv' := [(4, .long v6), (6, .long v9x1), (8, .int (v8 + (1 : Int32)))]) [2, 1, 0] rfl ?_
      exact hk15 v6 v9x1 (v8 + (1 : Int32)) I J B _ h
def mC_divisor_L15  : Nat → Int64 → Int64 → Int32 → Option (Int64)
  | 0 => fun _ _ _ => none
  | n + 1 => mC_divisor_B15 (mC_divisor_L15 n)
theorem sC_divisor_L15 (d : Nat) (hd : 0 + 1 ≤ d) : ∀ (n : Nat) (v4 : Int64) (v6 : Int64) (v8 : Int32) (I : hI) (J : hJ) (B : Bool × Bool) (q : Int64) (h : mC_divisor_L15 n v4 v6 v8 = some q), AW hFT cX10_divisor 11 (some .long) RX10 kdC d [(4, .long v4), (6, .long v6), (8, .int v8)] 15 [] (I, J, RM B) (some (.long q)) (I, J, RM B)
  | 0, _, _, _, _, _, _, q, h => by cases h
  | n + 1, v4, v6, v8, I, J, B, q, h => sC_divisor_B15 d hd (mC_divisor_L15 n) (sC_divisor_L15 d hd n) v4 v6 v8 I J B q h
def mC_divisor  (v0 : Int64) (v2 : Int64)  : Option (Int64) :=
  h_let (if 0 < v0 then v0 else -v0) fun v4x0 =>
  h_let (if 0 < v2 then v2 else -v2) fun v6x1 =>
  mC_divisor_L15 hF v4x0 v6x1 (0 : Int32)
set_option maxHeartbeats 4000000 in
theorem sC_divisor (d : Nat) (hd : 0 + 1 ≤ d) (v0 : Int64) (v2 : Int64) (I : hI) (J : hJ) (B : Bool × Bool) (q : Int64) (h : mC_divisor v0 v2 = some q) : HMet hFT yX10_divisor cX10_divisor 11 (some .long) kdC d [.long v0, .long v2] (I, J, RM B) (some (.long q)) (I, J, RM B) := by
  obtain ⟨d0, rfl, hd0⟩ := h_mono hd
  refine HMet.of (by decide) (Nat.le_of_ble_eq_true rfl) ?_
  show AW hFT cX10_divisor 11 (some .long) RX10 kdC (d0 + 1) [(0, .long v0), (2, .long v2)] 0 [] (I, J, RM B) (some (.long q)) (I, J, RM B)
  unfold mC_divisor at h
  refine a_lload_n dX10_divisor_0 rfl rfl ?_
  refine a_mabsL w_mabsL ml_10_306 (Nat.le_of_ble_eq_true rfl) dX10_divisor_1 ?_
  obtain ⟨v4x0, ev4x0, h⟩ := h_letS h
  refine a_topJ ev4x0 ?_
  refine a_lstore (lv' := [(4, .long v4x0), (0, .long v0), (2, .long v2)]) dX10_divisor_4 (by decide) rfl ?_
  refine a_lload_n dX10_divisor_6 rfl rfl ?_
  refine a_mabsL w_mabsL ml_10_306 (Nat.le_of_ble_eq_true rfl) dX10_divisor_7 ?_
  obtain ⟨v6x1, ev6x1, h⟩ := h_letS h
  refine a_topJ ev6x1 ?_
  refine a_lstore (lv' := [(6, .long v6x1), (4, .long v4x0), (0, .long v0), (2, .long v2)]) dX10_divisor_10 (by decide) rfl ?_
  refine a_iconst dX10_divisor_12 ic_0 ?_
  refine a_istore (lv' := [(8, .int (0 : Int32)), (6, .long v6x1), (4, .long v4x0), (0, .long v0), (2, .long v2)]) dX10_divisor_13 (by decide) rfl ?_
  refine a_sub (lv' := [(4, .long v4x0), (6, .long v6x1), (8, .int (0 : Int32))]) [2, 1, 0] rfl ?_
  exact sC_divisor_L15 (d0 + 1) (by omega) hF v4x0 v6x1 (0 : Int32) I J B _ h
/-! CoinLoops$Corners.tells(I[J)J -/
theorem dX1_tells_0 : decode cX1_tells 0 = .ok (.aload_n 2, 1) := by decide +kernel
theorem dX1_tells_1 : decode cX1_tells 1 = .ok (.arraylength, 1) := by decide +kernel
theorem dX1_tells_2 : decode cX1_tells 2 = .ok (.iconst 3, 1) := by decide +kernel
theorem dX1_tells_3 : decode cX1_tells 3 = .ok (.if_icmp .ge 5, 3) := by decide +kernel
theorem dX1_tells_6 : decode cX1_tells 6 = .ok (.lconst 0, 1) := by decide +kernel
theorem dX1_tells_7 : decode cX1_tells 7 = .ok (.lreturn, 1) := by decide +kernel
theorem dX1_tells_8 : decode cX1_tells 8 = .ok (.aload_n 2, 1) := by decide +kernel
theorem dX1_tells_9 : decode cX1_tells 9 = .ok (.iconst 0, 1) := by decide +kernel
theorem dX1_tells_10 : decode cX1_tells 10 = .ok (.laload, 1) := by decide +kernel
theorem dX1_tells_11 : decode cX1_tells 11 = .ok (.aload_n 0, 1) := by decide +kernel
theorem dX1_tells_12 : decode cX1_tells 12 = .ok (.getfield 35, 3) := by decide +kernel
theorem dX1_tells_15 : decode cX1_tells 15 = .ok (.iload_n 1, 1) := by decide +kernel
theorem dX1_tells_16 : decode cX1_tells 16 = .ok (.invokevirtual 99, 3) := by decide +kernel
theorem dX1_tells_19 : decode cX1_tells 19 = .ok (.i2l, 1) := by decide +kernel
theorem dX1_tells_20 : decode cX1_tells 20 = .ok (.lmul, 1) := by decide +kernel
theorem dX1_tells_21 : decode cX1_tells 21 = .ok (.aload_n 2, 1) := by decide +kernel
theorem dX1_tells_22 : decode cX1_tells 22 = .ok (.iconst 1, 1) := by decide +kernel
theorem dX1_tells_23 : decode cX1_tells 23 = .ok (.laload, 1) := by decide +kernel
theorem dX1_tells_24 : decode cX1_tells 24 = .ok (.aload_n 0, 1) := by decide +kernel
theorem dX1_tells_25 : decode cX1_tells 25 = .ok (.getfield 35, 3) := by decide +kernel
theorem dX1_tells_28 : decode cX1_tells 28 = .ok (.iload_n 1, 1) := by decide +kernel
theorem dX1_tells_29 : decode cX1_tells 29 = .ok (.invokevirtual 103, 3) := by decide +kernel
theorem dX1_tells_32 : decode cX1_tells 32 = .ok (.i2l, 1) := by decide +kernel
theorem dX1_tells_33 : decode cX1_tells 33 = .ok (.lmul, 1) := by decide +kernel
theorem dX1_tells_34 : decode cX1_tells 34 = .ok (.ladd, 1) := by decide +kernel
theorem dX1_tells_35 : decode cX1_tells 35 = .ok (.aload_n 2, 1) := by decide +kernel
theorem dX1_tells_36 : decode cX1_tells 36 = .ok (.iconst 2, 1) := by decide +kernel
theorem dX1_tells_37 : decode cX1_tells 37 = .ok (.laload, 1) := by decide +kernel
theorem dX1_tells_38 : decode cX1_tells 38 = .ok (.ladd, 1) := by decide +kernel
theorem dX1_tells_39 : decode cX1_tells 39 = .ok (.lreturn, 1) := by decide +kernel
def mCo_tells  (v1 : Int32) (a2 : Nat) (I : hI) (J : hJ) : Option (Int64) :=
  if (3 : Int32) ≤ (4 : Int32) then
    (h_g (h_in (0 : Int32) 4) <|
    (mRo_xOf v1 I).bind fun q2 =>
    h_g (h_in (1 : Int32) 4) <|
    (mRo_yOf v1 I).bind fun q4 =>
    h_g (h_in (2 : Int32) 4) <|
    some ((((J a2 (0 : Int32).toNatClampNeg) * q2.toInt64) + ((J a2 (1 : Int32).toNatClampNeg) * q4.toInt64)) + (J a2 (2 : Int32).toNatClampNeg)))
  else
    some (0 : Int64)
set_option maxHeartbeats 4000000 in
theorem sCo_tells (d : Nat) (hd : 0 + 1 ≤ d) (v1 : Int32) (a2 : Nat) (ha2 : kdC[a2]? = some (1, 4)) (I : hI) (J : hJ) (B : Bool × Bool) (q : Int64) (h : mCo_tells v1 a2 I J = some q) : HMet hFT yX1_tells cX1_tells 3 (some .long) kdC d [.ref 38, .int v1, .ref a2] (I, J, RM B) (some (.long q)) (I, J, RM B) := by
  obtain ⟨d0, rfl, hd0⟩ := h_mono hd
  refine HMet.of (by decide) (Nat.le_of_ble_eq_true rfl) ?_
  show AW hFT cX1_tells 3 (some .long) RX1 kdC (d0 + 1) [(0, .ref 38), (1, .int v1), (2, .ref a2)] 0 [] (I, J, RM B) (some (.long q)) (I, J, RM B)
  unfold mCo_tells at h
  refine a_aload_n dX1_tells_0 rfl rfl ?_
  refine a_alen1 ha2 (v := 4) (by decide) dX1_tells_1 ?_
  refine a_iconst dX1_tells_2 ic_3 ?_
  refine a_icmp_ge (tgt := 8) dX1_tells_3 (by decide) (fun c => ?_) (fun c => ?_)
  · replace h := h_iteT c h
    refine a_aload_n dX1_tells_8 rfl rfl ?_
    refine a_iconst dX1_tells_9 ic_0 ?_
    obtain ⟨g1, h⟩ := h_gS h
    refine b_laload ha2 (h_inV g1) dX1_tells_10 ?_
    refine a_aload_n dX1_tells_11 rfl rfl ?_
    refine b_getR hK_1 kc_38 (i := 0) rfl fl_1_35 rfl (rm_38_0 B) dX1_tells_12 ?_
    refine a_iload_n dX1_tells_15 rfl rfl ?_
    obtain ⟨q2, cq2, h⟩ := h_bindS h
    refine a_callV1 [.long (J a2 (0 : Int32).toNatClampNeg)] yy_X7_xOf ml_1_99 kc_7 rfl (sRo_xOf _ (by omega) v1 I J B q2 cq2) rfl rfl (Nat.le_of_ble_eq_true rfl) dX1_tells_16 ?_
    refine a_i2l dX1_tells_19 ?_
    refine a_lmul dX1_tells_20 ?_
    refine a_aload_n dX1_tells_21 rfl rfl ?_
    refine a_iconst dX1_tells_22 ic_1 ?_
    obtain ⟨g3, h⟩ := h_gS h
    refine b_laload ha2 (h_inV g3) dX1_tells_23 ?_
    refine a_aload_n dX1_tells_24 rfl rfl ?_
    refine b_getR hK_1 kc_38 (i := 0) rfl fl_1_35 rfl (rm_38_0 B) dX1_tells_25 ?_
    refine a_iload_n dX1_tells_28 rfl rfl ?_
    obtain ⟨q4, cq4, h⟩ := h_bindS h
    refine a_callV1 [.long (J a2 (1 : Int32).toNatClampNeg), .long ((J a2 (0 : Int32).toNatClampNeg) * q2.toInt64)] yy_X7_yOf ml_1_103 kc_7 rfl (sRo_yOf _ (by omega) v1 I J B q4 cq4) rfl rfl (Nat.le_of_ble_eq_true rfl) dX1_tells_29 ?_
    refine a_i2l dX1_tells_32 ?_
    refine a_lmul dX1_tells_33 ?_
    refine a_ladd dX1_tells_34 ?_
    refine a_aload_n dX1_tells_35 rfl rfl ?_
    refine a_iconst dX1_tells_36 ic_2 ?_
    obtain ⟨g5, h⟩ := h_gS h
    refine b_laload ha2 (h_inV g5) dX1_tells_37 ?_
    refine a_ladd dX1_tells_38 ?_
    cases h
    exact a_lret dX1_tells_39
  · replace h := h_iteF c h
    refine a_lconst dX1_tells_6 lc_0 ?_
    cases h
    exact a_lret dX1_tells_7
/-! CoinLoops$Corners.isBetter(I[J)Z -/
theorem dX1_isBetter_0 : decode cX1_isBetter 0 = .ok (.aload_n 2, 1) := by decide +kernel
theorem dX1_isBetter_1 : decode cX1_isBetter 1 = .ok (.arraylength, 1) := by decide +kernel
theorem dX1_isBetter_2 : decode cX1_isBetter 2 = .ok (.iconst 4, 1) := by decide +kernel
theorem dX1_isBetter_3 : decode cX1_isBetter 3 = .ok (.if_icmp .ge 5, 3) := by decide +kernel
theorem dX1_isBetter_6 : decode cX1_isBetter 6 = .ok (.iconst 0, 1) := by decide +kernel
theorem dX1_isBetter_7 : decode cX1_isBetter 7 = .ok (.ireturn, 1) := by decide +kernel
theorem dX1_isBetter_8 : decode cX1_isBetter 8 = .ok (.aload_n 0, 1) := by decide +kernel
theorem dX1_isBetter_9 : decode cX1_isBetter 9 = .ok (.iload_n 1, 1) := by decide +kernel
theorem dX1_isBetter_10 : decode cX1_isBetter 10 = .ok (.aload_n 0, 1) := by decide +kernel
theorem dX1_isBetter_11 : decode cX1_isBetter 11 = .ok (.getfield 29, 3) := by decide +kernel
theorem dX1_isBetter_14 : decode cX1_isBetter 14 = .ok (.invokevirtual 72, 3) := by decide +kernel
theorem dX1_isBetter_17 : decode cX1_isBetter 17 = .ok (.aload_n 2, 1) := by decide +kernel
theorem dX1_isBetter_18 : decode cX1_isBetter 18 = .ok (.iconst 3, 1) := by decide +kernel
theorem dX1_isBetter_19 : decode cX1_isBetter 19 = .ok (.laload, 1) := by decide +kernel
theorem dX1_isBetter_20 : decode cX1_isBetter 20 = .ok (.lmul, 1) := by decide +kernel
theorem dX1_isBetter_21 : decode cX1_isBetter 21 = .ok (.aload_n 0, 1) := by decide +kernel
theorem dX1_isBetter_22 : decode cX1_isBetter 22 = .ok (.iload_n 1, 1) := by decide +kernel
theorem dX1_isBetter_23 : decode cX1_isBetter 23 = .ok (.aload_n 2, 1) := by decide +kernel
theorem dX1_isBetter_24 : decode cX1_isBetter 24 = .ok (.invokevirtual 72, 3) := by decide +kernel
theorem dX1_isBetter_27 : decode cX1_isBetter 27 = .ok (.aload_n 0, 1) := by decide +kernel
theorem dX1_isBetter_28 : decode cX1_isBetter 28 = .ok (.getfield 29, 3) := by decide +kernel
theorem dX1_isBetter_31 : decode cX1_isBetter 31 = .ok (.iconst 3, 1) := by decide +kernel
theorem dX1_isBetter_32 : decode cX1_isBetter 32 = .ok (.laload, 1) := by decide +kernel
theorem dX1_isBetter_33 : decode cX1_isBetter 33 = .ok (.lmul, 1) := by decide +kernel
theorem dX1_isBetter_34 : decode cX1_isBetter 34 = .ok (.invokestatic 155, 3) := by decide +kernel
theorem dX1_isBetter_37 : decode cX1_isBetter 37 = .ok (.istore_n 3, 1) := by decide +kernel
theorem dX1_isBetter_38 : decode cX1_isBetter 38 = .ok (.iconst 0, 1) := by decide +kernel
theorem dX1_isBetter_39 : decode cX1_isBetter 39 = .ok (.istore 4, 2) := by decide +kernel
theorem dX1_isBetter_41 : decode cX1_isBetter 41 = .ok (.iload 4, 2) := by decide +kernel
theorem dX1_isBetter_43 : decode cX1_isBetter 43 = .ok (.iconst 2, 1) := by decide +kernel
theorem dX1_isBetter_44 : decode cX1_isBetter 44 = .ok (.if_icmp .ge 39, 3) := by decide +kernel
theorem dX1_isBetter_47 : decode cX1_isBetter 47 = .ok (.iload_n 3, 1) := by decide +kernel
theorem dX1_isBetter_48 : decode cX1_isBetter 48 = .ok (.ifCond .ne 35, 3) := by decide +kernel
theorem dX1_isBetter_51 : decode cX1_isBetter 51 = .ok (.aload_n 0, 1) := by decide +kernel
theorem dX1_isBetter_52 : decode cX1_isBetter 52 = .ok (.getfield 29, 3) := by decide +kernel
theorem dX1_isBetter_55 : decode cX1_isBetter 55 = .ok (.iload 4, 2) := by decide +kernel
theorem dX1_isBetter_57 : decode cX1_isBetter 57 = .ok (.laload, 1) := by decide +kernel
theorem dX1_isBetter_58 : decode cX1_isBetter 58 = .ok (.aload_n 2, 1) := by decide +kernel
theorem dX1_isBetter_59 : decode cX1_isBetter 59 = .ok (.iconst 3, 1) := by decide +kernel
theorem dX1_isBetter_60 : decode cX1_isBetter 60 = .ok (.laload, 1) := by decide +kernel
theorem dX1_isBetter_61 : decode cX1_isBetter 61 = .ok (.lmul, 1) := by decide +kernel
theorem dX1_isBetter_62 : decode cX1_isBetter 62 = .ok (.aload_n 2, 1) := by decide +kernel
theorem dX1_isBetter_63 : decode cX1_isBetter 63 = .ok (.iload 4, 2) := by decide +kernel
theorem dX1_isBetter_65 : decode cX1_isBetter 65 = .ok (.laload, 1) := by decide +kernel
theorem dX1_isBetter_66 : decode cX1_isBetter 66 = .ok (.aload_n 0, 1) := by decide +kernel
theorem dX1_isBetter_67 : decode cX1_isBetter 67 = .ok (.getfield 29, 3) := by decide +kernel
theorem dX1_isBetter_70 : decode cX1_isBetter 70 = .ok (.iconst 3, 1) := by decide +kernel
theorem dX1_isBetter_71 : decode cX1_isBetter 71 = .ok (.laload, 1) := by decide +kernel
theorem dX1_isBetter_72 : decode cX1_isBetter 72 = .ok (.lmul, 1) := by decide +kernel
theorem dX1_isBetter_73 : decode cX1_isBetter 73 = .ok (.invokestatic 155, 3) := by decide +kernel
theorem dX1_isBetter_76 : decode cX1_isBetter 76 = .ok (.istore_n 3, 1) := by decide +kernel
theorem dX1_isBetter_77 : decode cX1_isBetter 77 = .ok (.iinc 4 1, 3) := by decide +kernel
theorem dX1_isBetter_80 : decode cX1_isBetter 80 = .ok (.goto (-39), 3) := by decide +kernel
theorem dX1_isBetter_83 : decode cX1_isBetter 83 = .ok (.iload_n 3, 1) := by decide +kernel
theorem dX1_isBetter_84 : decode cX1_isBetter 84 = .ok (.ifCond .ge 7, 3) := by decide +kernel
theorem dX1_isBetter_87 : decode cX1_isBetter 87 = .ok (.iconst 1, 1) := by decide +kernel
theorem dX1_isBetter_88 : decode cX1_isBetter 88 = .ok (.goto 4, 3) := by decide +kernel
theorem dX1_isBetter_91 : decode cX1_isBetter 91 = .ok (.iconst 0, 1) := by decide +kernel
theorem dX1_isBetter_92 : decode cX1_isBetter 92 = .ok (.ireturn, 1) := by decide +kernel
def mCo_isBetter_83  (v3 : Int32) (I : hI) (J : hJ) : Option (Int32) :=
  if 0 ≤ v3 then
    some (0 : Int32)
  else
    some (1 : Int32)
set_option maxHeartbeats 4000000 in
theorem sCo_isBetter_83 (d : Nat) (hd : 1 + 1 ≤ d) (v3 : Int32) (I : hI) (J : hJ) (B : Bool × Bool) (q : Int32) (h : mCo_isBetter_83 v3 I J = some q) : AW hFT cX1_isBetter 5 (some .boolean) RX1 kdC d [(3, .int v3)] 83 [] (I, J, RM B) (some (.int q)) (I, J, RM B) := by
  obtain ⟨d0, rfl, hd0⟩ := h_mono hd
  unfold mCo_isBetter_83 at h
  refine a_iload_n dX1_isBetter_83 rfl rfl ?_
  refine a_if_ge (tgt := 91) dX1_isBetter_84 (by decide) (fun c => ?_) (fun c => ?_)
  · replace h := h_iteT c h
    refine a_iconst dX1_isBetter_91 ic_0 ?_
    cases h
    exact a_zret (h_Z0.1) dX1_isBetter_92
  · replace h := h_iteF c h
    refine a_iconst dX1_isBetter_87 ic_1 ?_
    refine a_goto (tgt := 92) dX1_isBetter_88 (by decide) ?_
    cases h
    exact a_zret (h_Z1.1) dX1_isBetter_92
def mCo_isBetter_B41 (k41 : Nat → Int32 → Int32 → hI → hJ → Option (Int32)) (a2 : Nat) (v3 : Int32) (v4 : Int32) (I : hI) (J : hJ) : Option (Int32) :=
  if (2 : Int32) ≤ v4 then
    mCo_isBetter_83 v3 I J
  else
    (if v3 = 0 then
      (h_g (h_in v4 4) <|
      h_g (h_in (3 : Int32) 4) <|
      h_g (h_in v4 4) <|
      h_g (h_in (3 : Int32) 4) <|
      h_let (mJ_compare ((J 48 v4.toNatClampNeg) * (J a2 (3 : Int32).toNatClampNeg)) ((J a2 v4.toNatClampNeg) * (J 48 (3 : Int32).toNatClampNeg))) fun v3x4 =>
      k41 a2 v3x4 (v4 + (1 : Int32)) I J)
    else
      mCo_isBetter_83 v3 I J)
set_option maxHeartbeats 4000000 in
theorem sCo_isBetter_B41 (d : Nat) (hd : 1 + 1 ≤ d) (k41 : Nat → Int32 → Int32 → hI → hJ → Option (Int32)) (hk41 : ∀ (a2 : Nat) (ha2 : kdC[a2]? = some (1, 4)) (v3 : Int32) (v4 : Int32) (I : hI) (J : hJ) (B : Bool × Bool) (q : Int32), k41 a2 v3 v4 I J = some q → AW hFT cX1_isBetter 5 (some .boolean) RX1 kdC d [(0, .ref 38), (2, .ref a2), (3, .int v3), (4, .int v4)] 41 [] (I, J, RM B) (some (.int q)) (I, J, RM B)) (a2 : Nat) (ha2 : kdC[a2]? = some (1, 4)) (v3 : Int32) (v4 : Int32) (I : hI) (J : hJ) (B : Bool × Bool) (q : Int32) (h : mCo_isBetter_B41 k41 a2 v3 v4 I J = some q) : AW hFT cX1_isBetter 5 (some .boolean) RX1 kdC d [(0, .ref 38), (2, .ref a2), (3, .int v3), (4, .int v4)] 41 [] (I, J, RM B) (some (.int q)) (I, J, RM B) := by
  obtain ⟨d0, rfl, hd0⟩ := h_mono hd
  unfold mCo_isBetter_B41 at h
  refine a_iload dX1_isBetter_41 rfl ?_
  refine a_iconst dX1_isBetter_43 ic_2 ?_
  refine a_icmp_ge (tgt := 83) dX1_isBetter_44 (by decide) (fun c => ?_) (fun c => ?_)
  · replace h := h_iteT c h
    refine a_sub (lv' := [(3, .int v3)]) [2] rfl ?_
    exact sCo_isBetter_83 (d0 + 1) (by omega) v3 I J B _ h
  · replace h := h_iteF c h
    refine a_iload_n dX1_isBetter_47 rfl rfl ?_
    refine a_if_ne (tgt := 83) dX1_isBetter_48 (by decide) (fun c => ?_) (fun c => ?_)
    · replace h := h_iteF c h
      refine a_sub (lv' := [(3, .int v3)]) [2] rfl ?_
      exact sCo_isBetter_83 (d0 + 1) (by omega) v3 I J B _ h
    · replace h := h_iteT c h
      refine a_aload_n dX1_isBetter_51 rfl rfl ?_
      refine b_getR hK_1 kc_38 (i := 13) rfl fl_1_29 rfl (rm_38_13 B) dX1_isBetter_52 ?_
      refine a_iload dX1_isBetter_55 rfl ?_
      obtain ⟨g1, h⟩ := h_gS h
      refine b_laload kc_48 (h_inV g1) dX1_isBetter_57 ?_
      refine a_aload_n dX1_isBetter_58 rfl rfl ?_
      refine a_iconst dX1_isBetter_59 ic_3 ?_
      obtain ⟨g2, h⟩ := h_gS h
      refine b_laload ha2 (h_inV g2) dX1_isBetter_60 ?_
      refine a_lmul dX1_isBetter_61 ?_
      refine a_aload_n dX1_isBetter_62 rfl rfl ?_
      refine a_iload dX1_isBetter_63 rfl ?_
      obtain ⟨g3, h⟩ := h_gS h
      refine b_laload ha2 (h_inV g3) dX1_isBetter_65 ?_
      refine a_aload_n dX1_isBetter_66 rfl rfl ?_
      refine b_getR hK_1 kc_38 (i := 13) rfl fl_1_29 rfl (rm_38_13 B) dX1_isBetter_67 ?_
      refine a_iconst dX1_isBetter_70 ic_3 ?_
      obtain ⟨g4, h⟩ := h_gS h
      refine b_laload kc_48 (h_inV g4) dX1_isBetter_71 ?_
      refine a_lmul dX1_isBetter_72 ?_
      refine a_callS1 [] yyJ_compare ml_1_155 (sJ_compare _ (Nat.zero_le _) ((J 48 v4.toNatClampNeg) * (J a2 (3 : Int32).toNatClampNeg)) ((J a2 v4.toNatClampNeg) * (J 48 (3 : Int32).toNatClampNeg))) rfl rfl (Nat.le_of_ble_eq_true rfl) dX1_isBetter_73 ?_
      obtain ⟨v3x4, ev3x4, h⟩ := h_letS h
      refine a_topI ev3x4 ?_
      refine a_istore_n (lv' := [(3, .int v3x4), (0, .ref 38), (2, .ref a2), (4, .int v4)]) dX1_isBetter_76 rfl (by decide) rfl ?_
      refine b_iinc (lv' := [(4, .int (v4 + (1 : Int32))), (3, .int v3x4), (0, .ref 38), (2, .ref a2)]) dX1_isBetter_77 rfl ic_1 (by decide) rfl ?_
      refine a_goto (tgt := 41) dX1_isBetter_80 (by decide) ?_
      refine a_sub (lv' := [(0, .ref 38), (2, .ref a2), (3, .int v3x4), (4, .int (v4 + (1 : Int32)))]) [2, 3, 1, 0] rfl ?_
      exact hk41 a2 ha2 v3x4 (v4 + (1 : Int32)) I J B _ h
def mCo_isBetter_L41  : Nat → Nat → Int32 → Int32 → hI → hJ → Option (Int32)
  | 0 => fun _ _ _ _ _ => none
  | n + 1 => mCo_isBetter_B41 (mCo_isBetter_L41 n)
theorem sCo_isBetter_L41 (d : Nat) (hd : 1 + 1 ≤ d) : ∀ (n : Nat) (a2 : Nat) (ha2 : kdC[a2]? = some (1, 4)) (v3 : Int32) (v4 : Int32) (I : hI) (J : hJ) (B : Bool × Bool) (q : Int32) (h : mCo_isBetter_L41 n a2 v3 v4 I J = some q), AW hFT cX1_isBetter 5 (some .boolean) RX1 kdC d [(0, .ref 38), (2, .ref a2), (3, .int v3), (4, .int v4)] 41 [] (I, J, RM B) (some (.int q)) (I, J, RM B)
  | 0, _, _, _, _, _, _, _, q, h => by cases h
  | n + 1, a2, ha2, v3, v4, I, J, B, q, h => sCo_isBetter_B41 d hd (mCo_isBetter_L41 n) (sCo_isBetter_L41 d hd n) a2 ha2 v3 v4 I J B q h
def mCo_isBetter  (v1 : Int32) (a2 : Nat) (I : hI) (J : hJ) : Option (Int32) :=
  if (4 : Int32) ≤ (4 : Int32) then
    ((mCo_tells v1 48 I J).bind fun q1 =>
    h_g (h_in (3 : Int32) 4) <|
    (mCo_tells v1 a2 I J).bind fun q3 =>
    h_g (h_in (3 : Int32) 4) <|
    h_let (mJ_compare (q1 * (J a2 (3 : Int32).toNatClampNeg)) (q3 * (J 48 (3 : Int32).toNatClampNeg))) fun v3x4 =>
    mCo_isBetter_L41 hF a2 v3x4 (0 : Int32) I J)
  else
    some (0 : Int32)
set_option maxHeartbeats 4000000 in
theorem sCo_isBetter (d : Nat) (hd : 1 + 1 ≤ d) (v1 : Int32) (a2 : Nat) (ha2 : kdC[a2]? = some (1, 4)) (I : hI) (J : hJ) (B : Bool × Bool) (q : Int32) (h : mCo_isBetter v1 a2 I J = some q) : HMet hFT yX1_isBetter cX1_isBetter 5 (some .boolean) kdC d [.ref 38, .int v1, .ref a2] (I, J, RM B) (some (.int q)) (I, J, RM B) := by
  obtain ⟨d0, rfl, hd0⟩ := h_mono hd
  refine HMet.of (by decide) (Nat.le_of_ble_eq_true rfl) ?_
  show AW hFT cX1_isBetter 5 (some .boolean) RX1 kdC (d0 + 1) [(0, .ref 38), (1, .int v1), (2, .ref a2)] 0 [] (I, J, RM B) (some (.int q)) (I, J, RM B)
  unfold mCo_isBetter at h
  refine a_aload_n dX1_isBetter_0 rfl rfl ?_
  refine a_alen1 ha2 (v := 4) (by decide) dX1_isBetter_1 ?_
  refine a_iconst dX1_isBetter_2 ic_4 ?_
  refine a_icmp_ge (tgt := 8) dX1_isBetter_3 (by decide) (fun c => ?_) (fun c => ?_)
  · replace h := h_iteT c h
    refine a_aload_n dX1_isBetter_8 rfl rfl ?_
    refine a_iload_n dX1_isBetter_9 rfl rfl ?_
    refine a_aload_n dX1_isBetter_10 rfl rfl ?_
    refine b_getR hK_1 kc_38 (i := 13) rfl fl_1_29 rfl (rm_38_13 B) dX1_isBetter_11 ?_
    obtain ⟨q1, cq1, h⟩ := h_bindS h
    refine a_callV1 [] yy_X1_tells ml_1_72 kc_38 rfl (sCo_tells _ (by omega) v1 48 kc_48 I J B q1 cq1) rfl rfl (Nat.le_of_ble_eq_true rfl) dX1_isBetter_14 ?_
    refine a_aload_n dX1_isBetter_17 rfl rfl ?_
    refine a_iconst dX1_isBetter_18 ic_3 ?_
    obtain ⟨g2, h⟩ := h_gS h
    refine b_laload ha2 (h_inV g2) dX1_isBetter_19 ?_
    refine a_lmul dX1_isBetter_20 ?_
    refine a_aload_n dX1_isBetter_21 rfl rfl ?_
    refine a_iload_n dX1_isBetter_22 rfl rfl ?_
    refine a_aload_n dX1_isBetter_23 rfl rfl ?_
    obtain ⟨q3, cq3, h⟩ := h_bindS h
    refine a_callV1 [.long (q1 * (J a2 (3 : Int32).toNatClampNeg))] yy_X1_tells ml_1_72 kc_38 rfl (sCo_tells _ (by omega) v1 a2 ha2 I J B q3 cq3) rfl rfl (Nat.le_of_ble_eq_true rfl) dX1_isBetter_24 ?_
    refine a_aload_n dX1_isBetter_27 rfl rfl ?_
    refine b_getR hK_1 kc_38 (i := 13) rfl fl_1_29 rfl (rm_38_13 B) dX1_isBetter_28 ?_
    refine a_iconst dX1_isBetter_31 ic_3 ?_
    obtain ⟨g4, h⟩ := h_gS h
    refine b_laload kc_48 (h_inV g4) dX1_isBetter_32 ?_
    refine a_lmul dX1_isBetter_33 ?_
    refine a_callS1 [] yyJ_compare ml_1_155 (sJ_compare _ (Nat.zero_le _) (q1 * (J a2 (3 : Int32).toNatClampNeg)) (q3 * (J 48 (3 : Int32).toNatClampNeg))) rfl rfl (Nat.le_of_ble_eq_true rfl) dX1_isBetter_34 ?_
    obtain ⟨v3x4, ev3x4, h⟩ := h_letS h
    refine a_topI ev3x4 ?_
    refine a_istore_n (lv' := [(3, .int v3x4), (0, .ref 38), (1, .int v1), (2, .ref a2)]) dX1_isBetter_37 rfl (by decide) rfl ?_
    refine a_iconst dX1_isBetter_38 ic_0 ?_
    refine a_istore (lv' := [(4, .int (0 : Int32)), (3, .int v3x4), (0, .ref 38), (1, .int v1), (2, .ref a2)]) dX1_isBetter_39 (by decide) rfl ?_
    refine a_sub (lv' := [(0, .ref 38), (2, .ref a2), (3, .int v3x4), (4, .int (0 : Int32))]) [2, 4, 1, 0] rfl ?_
    exact sCo_isBetter_L41 (d0 + 1) (by omega) hF a2 ha2 v3x4 (0 : Int32) I J B _ h
  · replace h := h_iteF c h
    refine a_iconst dX1_isBetter_6 ic_0 ?_
    cases h
    exact a_zret (h_Z0.1) dX1_isBetter_7
/-! CoinLoops$Corners.noteCorner(JJ)V -/
theorem dX1_noteCorner_0 : decode cX1_noteCorner 0 = .ok (.aload_n 0, 1) := by decide +kernel
theorem dX1_noteCorner_1 : decode cX1_noteCorner 1 = .ok (.getfield 29, 3) := by decide +kernel
theorem dX1_noteCorner_4 : decode cX1_noteCorner 4 = .ok (.iconst 3, 1) := by decide +kernel
theorem dX1_noteCorner_5 : decode cX1_noteCorner 5 = .ok (.aload_n 0, 1) := by decide +kernel
theorem dX1_noteCorner_6 : decode cX1_noteCorner 6 = .ok (.getfield 121, 3) := by decide +kernel
theorem dX1_noteCorner_9 : decode cX1_noteCorner 9 = .ok (.lload_n 3, 1) := by decide +kernel
theorem dX1_noteCorner_10 : decode cX1_noteCorner 10 = .ok (.lmul, 1) := by decide +kernel
theorem dX1_noteCorner_11 : decode cX1_noteCorner 11 = .ok (.lastore, 1) := by decide +kernel
theorem dX1_noteCorner_12 : decode cX1_noteCorner 12 = .ok (.aload_n 0, 1) := by decide +kernel
theorem dX1_noteCorner_13 : decode cX1_noteCorner 13 = .ok (.getfield 29, 3) := by decide +kernel
theorem dX1_noteCorner_16 : decode cX1_noteCorner 16 = .ok (.iconst 3, 1) := by decide +kernel
theorem dX1_noteCorner_17 : decode cX1_noteCorner 17 = .ok (.laload, 1) := by decide +kernel
theorem dX1_noteCorner_18 : decode cX1_noteCorner 18 = .ok (.lstore 5, 2) := by decide +kernel
theorem dX1_noteCorner_20 : decode cX1_noteCorner 20 = .ok (.iconst 0, 1) := by decide +kernel
theorem dX1_noteCorner_21 : decode cX1_noteCorner 21 = .ok (.istore 7, 2) := by decide +kernel
theorem dX1_noteCorner_23 : decode cX1_noteCorner 23 = .ok (.iload 7, 2) := by decide +kernel
theorem dX1_noteCorner_25 : decode cX1_noteCorner 25 = .ok (.iconst 3, 1) := by decide +kernel
theorem dX1_noteCorner_26 : decode cX1_noteCorner 26 = .ok (.if_icmp .ge 49, 3) := by decide +kernel
theorem dX1_noteCorner_29 : decode cX1_noteCorner 29 = .ok (.aload_n 0, 1) := by decide +kernel
theorem dX1_noteCorner_30 : decode cX1_noteCorner 30 = .ok (.getfield 29, 3) := by decide +kernel
theorem dX1_noteCorner_33 : decode cX1_noteCorner 33 = .ok (.iload 7, 2) := by decide +kernel
theorem dX1_noteCorner_35 : decode cX1_noteCorner 35 = .ok (.aload_n 0, 1) := by decide +kernel
theorem dX1_noteCorner_36 : decode cX1_noteCorner 36 = .ok (.getfield 16, 3) := by decide +kernel
theorem dX1_noteCorner_39 : decode cX1_noteCorner 39 = .ok (.iload 7, 2) := by decide +kernel
theorem dX1_noteCorner_41 : decode cX1_noteCorner 41 = .ok (.laload, 1) := by decide +kernel
theorem dX1_noteCorner_42 : decode cX1_noteCorner 42 = .ok (.lload_n 3, 1) := by decide +kernel
theorem dX1_noteCorner_43 : decode cX1_noteCorner 43 = .ok (.lmul, 1) := by decide +kernel
theorem dX1_noteCorner_44 : decode cX1_noteCorner 44 = .ok (.lload_n 1, 1) := by decide +kernel
theorem dX1_noteCorner_45 : decode cX1_noteCorner 45 = .ok (.aload_n 0, 1) := by decide +kernel
theorem dX1_noteCorner_46 : decode cX1_noteCorner 46 = .ok (.getfield 20, 3) := by decide +kernel
theorem dX1_noteCorner_49 : decode cX1_noteCorner 49 = .ok (.iload 7, 2) := by decide +kernel
theorem dX1_noteCorner_51 : decode cX1_noteCorner 51 = .ok (.laload, 1) := by decide +kernel
theorem dX1_noteCorner_52 : decode cX1_noteCorner 52 = .ok (.lmul, 1) := by decide +kernel
theorem dX1_noteCorner_53 : decode cX1_noteCorner 53 = .ok (.ladd, 1) := by decide +kernel
theorem dX1_noteCorner_54 : decode cX1_noteCorner 54 = .ok (.lastore, 1) := by decide +kernel
theorem dX1_noteCorner_55 : decode cX1_noteCorner 55 = .ok (.lload 5, 2) := by decide +kernel
theorem dX1_noteCorner_57 : decode cX1_noteCorner 57 = .ok (.aload_n 0, 1) := by decide +kernel
theorem dX1_noteCorner_58 : decode cX1_noteCorner 58 = .ok (.getfield 29, 3) := by decide +kernel
theorem dX1_noteCorner_61 : decode cX1_noteCorner 61 = .ok (.iload 7, 2) := by decide +kernel
theorem dX1_noteCorner_63 : decode cX1_noteCorner 63 = .ok (.laload, 1) := by decide +kernel
theorem dX1_noteCorner_64 : decode cX1_noteCorner 64 = .ok (.invokestatic 141, 3) := by decide +kernel
theorem dX1_noteCorner_67 : decode cX1_noteCorner 67 = .ok (.lstore 5, 2) := by decide +kernel
theorem dX1_noteCorner_69 : decode cX1_noteCorner 69 = .ok (.iinc 7 1, 3) := by decide +kernel
theorem dX1_noteCorner_72 : decode cX1_noteCorner 72 = .ok (.goto (-49), 3) := by decide +kernel
theorem dX1_noteCorner_75 : decode cX1_noteCorner 75 = .ok (.iconst 0, 1) := by decide +kernel
theorem dX1_noteCorner_76 : decode cX1_noteCorner 76 = .ok (.istore 7, 2) := by decide +kernel
theorem dX1_noteCorner_78 : decode cX1_noteCorner 78 = .ok (.iload 7, 2) := by decide +kernel
theorem dX1_noteCorner_80 : decode cX1_noteCorner 80 = .ok (.iconst 4, 1) := by decide +kernel
theorem dX1_noteCorner_81 : decode cX1_noteCorner 81 = .ok (.if_icmp .ge 28, 3) := by decide +kernel
theorem dX1_noteCorner_84 : decode cX1_noteCorner 84 = .ok (.lload 5, 2) := by decide +kernel
theorem dX1_noteCorner_86 : decode cX1_noteCorner 86 = .ok (.lconst 0, 1) := by decide +kernel
theorem dX1_noteCorner_87 : decode cX1_noteCorner 87 = .ok (.lcmp, 1) := by decide +kernel
theorem dX1_noteCorner_88 : decode cX1_noteCorner 88 = .ok (.ifCond .eq 21, 3) := by decide +kernel
theorem dX1_noteCorner_91 : decode cX1_noteCorner 91 = .ok (.aload_n 0, 1) := by decide +kernel
theorem dX1_noteCorner_92 : decode cX1_noteCorner 92 = .ok (.getfield 29, 3) := by decide +kernel
theorem dX1_noteCorner_95 : decode cX1_noteCorner 95 = .ok (.iload 7, 2) := by decide +kernel
theorem dX1_noteCorner_97 : decode cX1_noteCorner 97 = .ok (.dup2, 1) := by decide +kernel
theorem dX1_noteCorner_98 : decode cX1_noteCorner 98 = .ok (.laload, 1) := by decide +kernel
theorem dX1_noteCorner_99 : decode cX1_noteCorner 99 = .ok (.lload 5, 2) := by decide +kernel
theorem dX1_noteCorner_101 : decode cX1_noteCorner 101 = .ok (.ldiv, 1) := by decide +kernel
theorem dX1_noteCorner_102 : decode cX1_noteCorner 102 = .ok (.lastore, 1) := by decide +kernel
theorem dX1_noteCorner_103 : decode cX1_noteCorner 103 = .ok (.iinc 7 1, 3) := by decide +kernel
theorem dX1_noteCorner_106 : decode cX1_noteCorner 106 = .ok (.goto (-28), 3) := by decide +kernel
theorem dX1_noteCorner_109 : decode cX1_noteCorner 109 = .ok (.iconst 0, 1) := by decide +kernel
theorem dX1_noteCorner_110 : decode cX1_noteCorner 110 = .ok (.istore 7, 2) := by decide +kernel
theorem dX1_noteCorner_112 : decode cX1_noteCorner 112 = .ok (.iload 7, 2) := by decide +kernel
theorem dX1_noteCorner_114 : decode cX1_noteCorner 114 = .ok (.aload_n 0, 1) := by decide +kernel
theorem dX1_noteCorner_115 : decode cX1_noteCorner 115 = .ok (.getfield 35, 3) := by decide +kernel
theorem dX1_noteCorner_118 : decode cX1_noteCorner 118 = .ok (.getfield 92, 3) := by decide +kernel
theorem dX1_noteCorner_121 : decode cX1_noteCorner 121 = .ok (.if_icmp .ge 61, 3) := by decide +kernel
theorem dX1_noteCorner_124 : decode cX1_noteCorner 124 = .ok (.aload_n 0, 1) := by decide +kernel
theorem dX1_noteCorner_125 : decode cX1_noteCorner 125 = .ok (.getfield 35, 3) := by decide +kernel
theorem dX1_noteCorner_128 : decode cX1_noteCorner 128 = .ok (.iload 7, 2) := by decide +kernel
theorem dX1_noteCorner_130 : decode cX1_noteCorner 130 = .ok (.invokevirtual 95, 3) := by decide +kernel
theorem dX1_noteCorner_133 : decode cX1_noteCorner 133 = .ok (.ifCond .eq 43, 3) := by decide +kernel
theorem dX1_noteCorner_136 : decode cX1_noteCorner 136 = .ok (.aload_n 0, 1) := by decide +kernel
theorem dX1_noteCorner_137 : decode cX1_noteCorner 137 = .ok (.getfield 43, 3) := by decide +kernel
theorem dX1_noteCorner_140 : decode cX1_noteCorner 140 = .ok (.ifCond .eq 19, 3) := by decide +kernel
theorem dX1_noteCorner_143 : decode cX1_noteCorner 143 = .ok (.aload_n 0, 1) := by decide +kernel
theorem dX1_noteCorner_144 : decode cX1_noteCorner 144 = .ok (.iload 7, 2) := by decide +kernel
theorem dX1_noteCorner_146 : decode cX1_noteCorner 146 = .ok (.aload_n 0, 1) := by decide +kernel
theorem dX1_noteCorner_147 : decode cX1_noteCorner 147 = .ok (.getfield 32, 3) := by decide +kernel
theorem dX1_noteCorner_150 : decode cX1_noteCorner 150 = .ok (.iload 7, 2) := by decide +kernel
theorem dX1_noteCorner_152 : decode cX1_noteCorner 152 = .ok (.aaload, 1) := by decide +kernel
theorem dX1_noteCorner_153 : decode cX1_noteCorner 153 = .ok (.invokevirtual 145, 3) := by decide +kernel
theorem dX1_noteCorner_156 : decode cX1_noteCorner 156 = .ok (.ifCond .eq 20, 3) := by decide +kernel
theorem dX1_noteCorner_159 : decode cX1_noteCorner 159 = .ok (.aload_n 0, 1) := by decide +kernel
theorem dX1_noteCorner_160 : decode cX1_noteCorner 160 = .ok (.getfield 29, 3) := by decide +kernel
theorem dX1_noteCorner_163 : decode cX1_noteCorner 163 = .ok (.iconst 0, 1) := by decide +kernel
theorem dX1_noteCorner_164 : decode cX1_noteCorner 164 = .ok (.aload_n 0, 1) := by decide +kernel
theorem dX1_noteCorner_165 : decode cX1_noteCorner 165 = .ok (.getfield 32, 3) := by decide +kernel
theorem dX1_noteCorner_168 : decode cX1_noteCorner 168 = .ok (.iload 7, 2) := by decide +kernel
theorem dX1_noteCorner_170 : decode cX1_noteCorner 170 = .ok (.aaload, 1) := by decide +kernel
theorem dX1_noteCorner_171 : decode cX1_noteCorner 171 = .ok (.iconst 0, 1) := by decide +kernel
theorem dX1_noteCorner_172 : decode cX1_noteCorner 172 = .ok (.iconst 4, 1) := by decide +kernel
theorem dX1_noteCorner_173 : decode cX1_noteCorner 173 = .ok (.invokestatic 149, 3) := by decide +kernel
theorem dX1_noteCorner_176 : decode cX1_noteCorner 176 = .ok (.iinc 7 1, 3) := by decide +kernel
theorem dX1_noteCorner_179 : decode cX1_noteCorner 179 = .ok (.goto (-67), 3) := by decide +kernel
theorem dX1_noteCorner_182 : decode cX1_noteCorner 182 = .ok (.aload_n 0, 1) := by decide +kernel
theorem dX1_noteCorner_183 : decode cX1_noteCorner 183 = .ok (.iconst 1, 1) := by decide +kernel
theorem dX1_noteCorner_184 : decode cX1_noteCorner 184 = .ok (.putfield 43, 3) := by decide +kernel
theorem dX1_noteCorner_187 : decode cX1_noteCorner 187 = .ok (.return_, 1) := by decide +kernel
def mCo_noteCorner_159 (k112 : Int32 → hI → hJ → Option (hI × hJ)) (v7 : Int32) (I : hI) (J : hJ) : Option (hI × hJ) :=
  h_g (h_in v7 10) <|
  h_let (h_cp J 48 0 (50 + v7.toNatClampNeg) 0 (4 : Int32).toNatClampNeg) fun J2 =>
  k112 (v7 + (1 : Int32)) I J2
set_option maxHeartbeats 4000000 in
theorem sCo_noteCorner_159 (d : Nat) (hd : 2 + 1 ≤ d) (k112 : Int32 → hI → hJ → Option (hI × hJ)) (hk112 : ∀ (v7 : Int32) (I : hI) (J : hJ) (B : Bool × Bool) (q : hI × hJ), k112 v7 I J = some q → AW hFT cX1_noteCorner 8 none RX1 kdC d [(0, .ref 38), (7, .int v7)] 112 [] (I, J, RM B) none (q.1, q.2, RM B)) (v7 : Int32) (I : hI) (J : hJ) (B : Bool × Bool) (q : hI × hJ) (h : mCo_noteCorner_159 k112 v7 I J = some q) : AW hFT cX1_noteCorner 8 none RX1 kdC d [(0, .ref 38), (7, .int v7)] 159 [] (I, J, RM B) none (q.1, q.2, RM B) := by
  obtain ⟨d0, rfl, hd0⟩ := h_mono hd
  unfold mCo_noteCorner_159 at h
  refine a_aload_n dX1_noteCorner_159 rfl rfl ?_
  refine b_getR hK_1 kc_38 (i := 13) rfl fl_1_29 rfl (rm_38_13 B) dX1_noteCorner_160 ?_
  refine a_iconst dX1_noteCorner_163 ic_0 ?_
  refine a_aload_n dX1_noteCorner_164 rfl rfl ?_
  refine b_getR hK_1 kc_38 (i := 14) rfl fl_1_32 rfl (rm_38_14 B) dX1_noteCorner_165 ?_
  refine a_iload dX1_noteCorner_168 rfl ?_
  obtain ⟨g1, h⟩ := h_gS h
  refine b_aaload4 kc_49 (h_inV g1) (rm_JJ_49 B _ (h_in_lt (h_inV g1))) dX1_noteCorner_170 ?_
  refine a_iconst dX1_noteCorner_171 ic_0 ?_
  refine a_iconst dX1_noteCorner_172 ic_4 ?_
  refine a_copyJ kc_48 (k_JJ_49 _ (h_in_lt (h_inV g1))) ml_1_149 (by decide) (by decide) (by decide) (Nat.le_of_ble_eq_true rfl) dX1_noteCorner_173 ?_
  obtain ⟨J2, eJ2, h⟩ := h_letS h
  refine a_memJ eJ2 ?_
  refine b_iinc (lv' := [(7, .int (v7 + (1 : Int32))), (0, .ref 38)]) dX1_noteCorner_176 rfl ic_1 (by decide) rfl ?_
  refine a_goto (tgt := 112) dX1_noteCorner_179 (by decide) ?_
  refine a_sub (lv' := [(0, .ref 38), (7, .int (v7 + (1 : Int32)))]) [1, 0] rfl ?_
  exact hk112 (v7 + (1 : Int32)) I J2 B _ h
def mCo_noteCorner_B112 (k112 : Int32 → hI → hJ → Option (hI × hJ)) (v7 : Int32) (I : hI) (J : hJ) : Option (hI × hJ) :=
  if (I 7 5) ≤ v7 then
    (h_let (h_u I 38 2 (1 : Int32)) fun I1 =>
    some (I1, J))
  else
    (if (mRo_isIn v7 I) = 0 then
      k112 (v7 + (1 : Int32)) I J
    else
      (if (I 38 2) = 0 then
        mCo_noteCorner_159 k112 v7 I J
      else
        (h_g (h_in v7 10) <|
        (mCo_isBetter v7 (50 + v7.toNatClampNeg) I J).bind fun q2 =>
        if q2 = 0 then
          k112 (v7 + (1 : Int32)) I J
        else
          mCo_noteCorner_159 k112 v7 I J)))
set_option maxHeartbeats 4000000 in
theorem sCo_noteCorner_B112 (d : Nat) (hd : 2 + 1 ≤ d) (k112 : Int32 → hI → hJ → Option (hI × hJ)) (hk112 : ∀ (v7 : Int32) (I : hI) (J : hJ) (B : Bool × Bool) (q : hI × hJ), k112 v7 I J = some q → AW hFT cX1_noteCorner 8 none RX1 kdC d [(0, .ref 38), (7, .int v7)] 112 [] (I, J, RM B) none (q.1, q.2, RM B)) (v7 : Int32) (I : hI) (J : hJ) (B : Bool × Bool) (q : hI × hJ) (h : mCo_noteCorner_B112 k112 v7 I J = some q) : AW hFT cX1_noteCorner 8 none RX1 kdC d [(0, .ref 38), (7, .int v7)] 112 [] (I, J, RM B) none (q.1, q.2, RM B) := by
  obtain ⟨d0, rfl, hd0⟩ := h_mono hd
  unfold mCo_noteCorner_B112 at h
  refine a_iload dX1_noteCorner_112 rfl ?_
  refine a_aload_n dX1_noteCorner_114 rfl rfl ?_
  refine b_getR hK_1 kc_38 (i := 0) rfl fl_1_35 rfl (rm_38_0 B) dX1_noteCorner_115 ?_
  refine b_getI hK_7 kc_7 (i := 5) rfl fl_1_92 rfl dX1_noteCorner_118 ?_
  refine a_icmp_ge (tgt := 182) dX1_noteCorner_121 (by decide) (fun c => ?_) (fun c => ?_)
  · replace h := h_iteT c h
    refine a_aload_n dX1_noteCorner_182 rfl rfl ?_
    refine a_iconst dX1_noteCorner_183 ic_1 ?_
    refine b_putI hK_1 kc_38 (i := 2) rfl fl_1_43 rfl rfl h_Z1 dX1_noteCorner_184 ?_
    obtain ⟨I1, eI1, h⟩ := h_letS h
    refine a_memI eI1 ?_
    cases h
    exact a_vret dX1_noteCorner_187
  · replace h := h_iteF c h
    refine a_aload_n dX1_noteCorner_124 rfl rfl ?_
    refine b_getR hK_1 kc_38 (i := 0) rfl fl_1_35 rfl (rm_38_0 B) dX1_noteCorner_125 ?_
    refine a_iload dX1_noteCorner_128 rfl ?_
    refine a_callV1 [] yy_X7_isIn ml_1_95 kc_7 rfl (sRo_isIn _ (by omega) v7 I J B _ rfl) rfl rfl (Nat.le_of_ble_eq_true rfl) dX1_noteCorner_130 ?_
    refine a_if_eq (tgt := 176) dX1_noteCorner_133 (by decide) (fun c => ?_) (fun c => ?_)
    · replace h := h_iteT c h
      refine b_iinc (lv' := [(7, .int (v7 + (1 : Int32))), (0, .ref 38)]) dX1_noteCorner_176 rfl ic_1 (by decide) rfl ?_
      refine a_goto (tgt := 112) dX1_noteCorner_179 (by decide) ?_
      refine a_sub (lv' := [(0, .ref 38), (7, .int (v7 + (1 : Int32)))]) [1, 0] rfl ?_
      exact hk112 (v7 + (1 : Int32)) I J B _ h
    · replace h := h_iteF c h
      refine a_aload_n dX1_noteCorner_136 rfl rfl ?_
      refine b_getI hK_1 kc_38 (i := 2) rfl fl_1_43 rfl dX1_noteCorner_137 ?_
      refine a_if_eq (tgt := 159) dX1_noteCorner_140 (by decide) (fun c => ?_) (fun c => ?_)
      · replace h := h_iteT c h
        exact sCo_noteCorner_159 (d0 + 1) (by omega) k112 hk112 v7 I J B _ h
      · replace h := h_iteF c h
        refine a_aload_n dX1_noteCorner_143 rfl rfl ?_
        refine a_iload dX1_noteCorner_144 rfl ?_
        refine a_aload_n dX1_noteCorner_146 rfl rfl ?_
        refine b_getR hK_1 kc_38 (i := 14) rfl fl_1_32 rfl (rm_38_14 B) dX1_noteCorner_147 ?_
        refine a_iload dX1_noteCorner_150 rfl ?_
        obtain ⟨g1, h⟩ := h_gS h
        refine b_aaload4 kc_49 (h_inV g1) (rm_JJ_49 B _ (h_in_lt (h_inV g1))) dX1_noteCorner_152 ?_
        obtain ⟨q2, cq2, h⟩ := h_bindS h
        refine a_callV1 [] yy_X1_isBetter ml_1_145 kc_38 rfl (sCo_isBetter _ (by omega) v7 (50 + v7.toNatClampNeg) (k_JJ_49 _ (h_in_lt (h_inV g1))) I J B q2 cq2) rfl rfl (Nat.le_of_ble_eq_true rfl) dX1_noteCorner_153 ?_
        refine a_if_eq (tgt := 176) dX1_noteCorner_156 (by decide) (fun c => ?_) (fun c => ?_)
        · replace h := h_iteT c h
          refine b_iinc (lv' := [(7, .int (v7 + (1 : Int32))), (0, .ref 38)]) dX1_noteCorner_176 rfl ic_1 (by decide) rfl ?_
          refine a_goto (tgt := 112) dX1_noteCorner_179 (by decide) ?_
          refine a_sub (lv' := [(0, .ref 38), (7, .int (v7 + (1 : Int32)))]) [1, 0] rfl ?_
          exact hk112 (v7 + (1 : Int32)) I J B _ h
        · replace h := h_iteF c h
          exact sCo_noteCorner_159 (d0 + 1) (by omega) k112 hk112 v7 I J B _ h
def mCo_noteCorner_L112  : Nat → Int32 → hI → hJ → Option (hI × hJ)
  | 0 => fun _ _ _ => none
  | n + 1 => mCo_noteCorner_B112 (mCo_noteCorner_L112 n)
theorem sCo_noteCorner_L112 (d : Nat) (hd : 2 + 1 ≤ d) : ∀ (n : Nat) (v7 : Int32) (I : hI) (J : hJ) (B : Bool × Bool) (q : hI × hJ) (h : mCo_noteCorner_L112 n v7 I J = some q), AW hFT cX1_noteCorner 8 none RX1 kdC d [(0, .ref 38), (7, .int v7)] 112 [] (I, J, RM B) none (q.1, q.2, RM B)
  | 0, _, _, _, _, q, h => by cases h
  | n + 1, v7, I, J, B, q, h => sCo_noteCorner_B112 d hd (mCo_noteCorner_L112 n) (sCo_noteCorner_L112 d hd n) v7 I J B q h
def mCo_noteCorner_B78 (k78 : Int64 → Int32 → hI → hJ → Option (hI × hJ)) (v5 : Int64) (v7 : Int32) (I : hI) (J : hJ) : Option (hI × hJ) :=
  if (4 : Int32) ≤ v7 then
    mCo_noteCorner_L112 hF (0 : Int32) I J
  else
    (if v5 = (0 : Int64) then
      mCo_noteCorner_L112 hF (0 : Int32) I J
    else
      (h_g (h_in v7 4) <|
      h_g (h_nzL v5) <|
      h_g (h_in v7 4) <|
      h_let (h_u J 48 v7.toNatClampNeg ((J 48 v7.toNatClampNeg) / v5)) fun J4 =>
      k78 v5 (v7 + (1 : Int32)) I J4))
set_option maxHeartbeats 4000000 in
theorem sCo_noteCorner_B78 (d : Nat) (hd : 2 + 1 ≤ d) (k78 : Int64 → Int32 → hI → hJ → Option (hI × hJ)) (hk78 : ∀ (v5 : Int64) (v7 : Int32) (I : hI) (J : hJ) (B : Bool × Bool) (q : hI × hJ), k78 v5 v7 I J = some q → AW hFT cX1_noteCorner 8 none RX1 kdC d [(0, .ref 38), (5, .long v5), (7, .int v7)] 78 [] (I, J, RM B) none (q.1, q.2, RM B)) (v5 : Int64) (v7 : Int32) (I : hI) (J : hJ) (B : Bool × Bool) (q : hI × hJ) (h : mCo_noteCorner_B78 k78 v5 v7 I J = some q) : AW hFT cX1_noteCorner 8 none RX1 kdC d [(0, .ref 38), (5, .long v5), (7, .int v7)] 78 [] (I, J, RM B) none (q.1, q.2, RM B) := by
  obtain ⟨d0, rfl, hd0⟩ := h_mono hd
  unfold mCo_noteCorner_B78 at h
  refine a_iload dX1_noteCorner_78 rfl ?_
  refine a_iconst dX1_noteCorner_80 ic_4 ?_
  refine a_icmp_ge (tgt := 109) dX1_noteCorner_81 (by decide) (fun c => ?_) (fun c => ?_)
  · replace h := h_iteT c h
    refine a_iconst dX1_noteCorner_109 ic_0 ?_
    refine a_istore (lv' := [(7, .int (0 : Int32)), (0, .ref 38), (5, .long v5)]) dX1_noteCorner_110 (by decide) rfl ?_
    refine a_sub (lv' := [(0, .ref 38), (7, .int (0 : Int32))]) [1, 0] rfl ?_
    exact sCo_noteCorner_L112 (d0 + 1) (by omega) hF (0 : Int32) I J B _ h
  · replace h := h_iteF c h
    refine a_lload dX1_noteCorner_84 rfl ?_
    refine a_lconst dX1_noteCorner_86 lc_0 ?_
    refine a_lcmp_eq (tgt := 109) dX1_noteCorner_87 dX1_noteCorner_88 (by decide) (fun c => ?_) (fun c => ?_)
    · replace h := h_iteT c h
      refine a_iconst dX1_noteCorner_109 ic_0 ?_
      refine a_istore (lv' := [(7, .int (0 : Int32)), (0, .ref 38), (5, .long v5)]) dX1_noteCorner_110 (by decide) rfl ?_
      refine a_sub (lv' := [(0, .ref 38), (7, .int (0 : Int32))]) [1, 0] rfl ?_
      exact sCo_noteCorner_L112 (d0 + 1) (by omega) hF (0 : Int32) I J B _ h
    · replace h := h_iteF c h
      refine a_aload_n dX1_noteCorner_91 rfl rfl ?_
      refine b_getR hK_1 kc_38 (i := 13) rfl fl_1_29 rfl (rm_38_13 B) dX1_noteCorner_92 ?_
      refine a_iload dX1_noteCorner_95 rfl ?_
      refine a_dup2_11 dX1_noteCorner_97 rfl rfl ?_
      obtain ⟨g1, h⟩ := h_gS h
      refine b_laload kc_48 (h_inV g1) dX1_noteCorner_98 ?_
      refine a_lload dX1_noteCorner_99 rfl ?_
      obtain ⟨g2, h⟩ := h_gS h
      refine a_ldiv dX1_noteCorner_101 (h_nzLV g2) ?_
      obtain ⟨g3, h⟩ := h_gS h
      refine b_lastore kc_48 (h_inV g3) dX1_noteCorner_102 ?_
      obtain ⟨J4, eJ4, h⟩ := h_letS h
      refine a_memJ eJ4 ?_
      refine b_iinc (lv' := [(7, .int (v7 + (1 : Int32))), (0, .ref 38), (5, .long v5)]) dX1_noteCorner_103 rfl ic_1 (by decide) rfl ?_
      refine a_goto (tgt := 78) dX1_noteCorner_106 (by decide) ?_
      refine a_sub (lv' := [(0, .ref 38), (5, .long v5), (7, .int (v7 + (1 : Int32)))]) [1, 2, 0] rfl ?_
      exact hk78 v5 (v7 + (1 : Int32)) I J4 B _ h
def mCo_noteCorner_L78  : Nat → Int64 → Int32 → hI → hJ → Option (hI × hJ)
  | 0 => fun _ _ _ _ => none
  | n + 1 => mCo_noteCorner_B78 (mCo_noteCorner_L78 n)
theorem sCo_noteCorner_L78 (d : Nat) (hd : 2 + 1 ≤ d) : ∀ (n : Nat) (v5 : Int64) (v7 : Int32) (I : hI) (J : hJ) (B : Bool × Bool) (q : hI × hJ) (h : mCo_noteCorner_L78 n v5 v7 I J = some q), AW hFT cX1_noteCorner 8 none RX1 kdC d [(0, .ref 38), (5, .long v5), (7, .int v7)] 78 [] (I, J, RM B) none (q.1, q.2, RM B)
  | 0, _, _, _, _, _, q, h => by cases h
  | n + 1, v5, v7, I, J, B, q, h => sCo_noteCorner_B78 d hd (mCo_noteCorner_L78 n) (sCo_noteCorner_L78 d hd n) v5 v7 I J B q h
def mCo_noteCorner_B23 (k23 : Int64 → Int64 → Int64 → Int32 → hI → hJ → Option (hI × hJ)) (v1 : Int64) (v3 : Int64) (v5 : Int64) (v7 : Int32) (I : hI) (J : hJ) : Option (hI × hJ) :=
  if (3 : Int32) ≤ v7 then
    mCo_noteCorner_L78 hF v5 (0 : Int32) I J
  else
    (h_g (h_in v7 3) <|
    h_g (h_in v7 3) <|
    h_g (h_in v7 4) <|
    h_let (h_u J 48 v7.toNatClampNeg (((J 44 v7.toNatClampNeg) * v3) + (v1 * (J 45 v7.toNatClampNeg)))) fun J4 =>
    h_g (h_in v7 4) <|
    (mC_divisor v5 (J4 48 v7.toNatClampNeg)).bind fun q6 =>
    k23 v1 v3 q6 (v7 + (1 : Int32)) I J4)
set_option maxHeartbeats 4000000 in
theorem sCo_noteCorner_B23 (d : Nat) (hd : 2 + 1 ≤ d) (k23 : Int64 → Int64 → Int64 → Int32 → hI → hJ → Option (hI × hJ)) (hk23 : ∀ (v1 : Int64) (v3 : Int64) (v5 : Int64) (v7 : Int32) (I : hI) (J : hJ) (B : Bool × Bool) (q : hI × hJ), k23 v1 v3 v5 v7 I J = some q → AW hFT cX1_noteCorner 8 none RX1 kdC d [(0, .ref 38), (1, .long v1), (3, .long v3), (5, .long v5), (7, .int v7)] 23 [] (I, J, RM B) none (q.1, q.2, RM B)) (v1 : Int64) (v3 : Int64) (v5 : Int64) (v7 : Int32) (I : hI) (J : hJ) (B : Bool × Bool) (q : hI × hJ) (h : mCo_noteCorner_B23 k23 v1 v3 v5 v7 I J = some q) : AW hFT cX1_noteCorner 8 none RX1 kdC d [(0, .ref 38), (1, .long v1), (3, .long v3), (5, .long v5), (7, .int v7)] 23 [] (I, J, RM B) none (q.1, q.2, RM B) := by
  obtain ⟨d0, rfl, hd0⟩ := h_mono hd
  unfold mCo_noteCorner_B23 at h
  refine a_iload dX1_noteCorner_23 rfl ?_
  refine a_iconst dX1_noteCorner_25 ic_3 ?_
  refine a_icmp_ge (tgt := 75) dX1_noteCorner_26 (by decide) (fun c => ?_) (fun c => ?_)
  · replace h := h_iteT c h
    refine a_iconst dX1_noteCorner_75 ic_0 ?_
    refine a_istore (lv' := [(7, .int (0 : Int32)), (0, .ref 38), (1, .long v1), (3, .long v3), (5, .long v5)]) dX1_noteCorner_76 (by decide) rfl ?_
    refine a_sub (lv' := [(0, .ref 38), (5, .long v5), (7, .int (0 : Int32))]) [1, 4, 0] rfl ?_
    exact sCo_noteCorner_L78 (d0 + 1) (by omega) hF v5 (0 : Int32) I J B _ h
  · replace h := h_iteF c h
    refine a_aload_n dX1_noteCorner_29 rfl rfl ?_
    refine b_getR hK_1 kc_38 (i := 13) rfl fl_1_29 rfl (rm_38_13 B) dX1_noteCorner_30 ?_
    refine a_iload dX1_noteCorner_33 rfl ?_
    refine a_aload_n dX1_noteCorner_35 rfl rfl ?_
    refine b_getR hK_1 kc_38 (i := 6) rfl fl_1_16 rfl (rm_38_6 B) dX1_noteCorner_36 ?_
    refine a_iload dX1_noteCorner_39 rfl ?_
    obtain ⟨g1, h⟩ := h_gS h
    refine b_laload kc_44 (h_inV g1) dX1_noteCorner_41 ?_
    refine a_lload_n dX1_noteCorner_42 rfl rfl ?_
    refine a_lmul dX1_noteCorner_43 ?_
    refine a_lload_n dX1_noteCorner_44 rfl rfl ?_
    refine a_aload_n dX1_noteCorner_45 rfl rfl ?_
    refine b_getR hK_1 kc_38 (i := 7) rfl fl_1_20 rfl (rm_38_7 B) dX1_noteCorner_46 ?_
    refine a_iload dX1_noteCorner_49 rfl ?_
    obtain ⟨g2, h⟩ := h_gS h
    refine b_laload kc_45 (h_inV g2) dX1_noteCorner_51 ?_
    refine a_lmul dX1_noteCorner_52 ?_
    refine a_ladd dX1_noteCorner_53 ?_
    obtain ⟨g3, h⟩ := h_gS h
    refine b_lastore kc_48 (h_inV g3) dX1_noteCorner_54 ?_
    obtain ⟨J4, eJ4, h⟩ := h_letS h
    refine a_memJ eJ4 ?_
    refine a_lload dX1_noteCorner_55 rfl ?_
    refine a_aload_n dX1_noteCorner_57 rfl rfl ?_
    refine b_getR hK_1 kc_38 (i := 13) rfl fl_1_29 rfl (rm_38_13 B) dX1_noteCorner_58 ?_
    refine a_iload dX1_noteCorner_61 rfl ?_
    obtain ⟨g5, h⟩ := h_gS h
    refine b_laload kc_48 (h_inV g5) dX1_noteCorner_63 ?_
    obtain ⟨q6, cq6, h⟩ := h_bindS h
    refine a_callSN1 [] yy_X10_divisor ml_1_141 (sC_divisor _ (by omega) v5 (J4 48 v7.toNatClampNeg) I J4 B q6 cq6) rfl rfl (Nat.le_of_ble_eq_true rfl) dX1_noteCorner_64 ?_
    refine a_lstore (lv' := [(5, .long q6), (0, .ref 38), (1, .long v1), (3, .long v3), (7, .int v7)]) dX1_noteCorner_67 (by decide) rfl ?_
    refine b_iinc (lv' := [(7, .int (v7 + (1 : Int32))), (5, .long q6), (0, .ref 38), (1, .long v1), (3, .long v3)]) dX1_noteCorner_69 rfl ic_1 (by decide) rfl ?_
    refine a_goto (tgt := 23) dX1_noteCorner_72 (by decide) ?_
    refine a_sub (lv' := [(0, .ref 38), (1, .long v1), (3, .long v3), (5, .long q6), (7, .int (v7 + (1 : Int32)))]) [2, 3, 4, 1, 0] rfl ?_
    exact hk23 v1 v3 q6 (v7 + (1 : Int32)) I J4 B _ h
def mCo_noteCorner_L23  : Nat → Int64 → Int64 → Int64 → Int32 → hI → hJ → Option (hI × hJ)
  | 0 => fun _ _ _ _ _ _ => none
  | n + 1 => mCo_noteCorner_B23 (mCo_noteCorner_L23 n)
theorem sCo_noteCorner_L23 (d : Nat) (hd : 2 + 1 ≤ d) : ∀ (n : Nat) (v1 : Int64) (v3 : Int64) (v5 : Int64) (v7 : Int32) (I : hI) (J : hJ) (B : Bool × Bool) (q : hI × hJ) (h : mCo_noteCorner_L23 n v1 v3 v5 v7 I J = some q), AW hFT cX1_noteCorner 8 none RX1 kdC d [(0, .ref 38), (1, .long v1), (3, .long v3), (5, .long v5), (7, .int v7)] 23 [] (I, J, RM B) none (q.1, q.2, RM B)
  | 0, _, _, _, _, _, _, _, q, h => by cases h
  | n + 1, v1, v3, v5, v7, I, J, B, q, h => sCo_noteCorner_B23 d hd (mCo_noteCorner_L23 n) (sCo_noteCorner_L23 d hd n) v1 v3 v5 v7 I J B q h
def mCo_noteCorner  (v1 : Int64) (v3 : Int64) (I : hI) (J : hJ) : Option (hI × hJ) :=
  h_g (h_in (3 : Int32) 4) <|
  h_let (h_u J 48 (3 : Int32).toNatClampNeg ((J 38 8) * v3)) fun J2 =>
  h_g (h_in (3 : Int32) 4) <|
  h_let (J2 48 (3 : Int32).toNatClampNeg) fun v5x3 =>
  mCo_noteCorner_L23 hF v1 v3 v5x3 (0 : Int32) I J2
set_option maxHeartbeats 4000000 in
theorem sCo_noteCorner (d : Nat) (hd : 2 + 1 ≤ d) (v1 : Int64) (v3 : Int64) (I : hI) (J : hJ) (B : Bool × Bool) (q : hI × hJ) (h : mCo_noteCorner v1 v3 I J = some q) : HMet hFT yX1_noteCorner cX1_noteCorner 8 none kdC d [.ref 38, .long v1, .long v3] (I, J, RM B) none (q.1, q.2, RM B) := by
  obtain ⟨d0, rfl, hd0⟩ := h_mono hd
  refine HMet.of (by decide) (Nat.le_of_ble_eq_true rfl) ?_
  show AW hFT cX1_noteCorner 8 none RX1 kdC (d0 + 1) [(0, .ref 38), (1, .long v1), (3, .long v3)] 0 [] (I, J, RM B) none (q.1, q.2, RM B)
  unfold mCo_noteCorner at h
  refine a_aload_n dX1_noteCorner_0 rfl rfl ?_
  refine b_getR hK_1 kc_38 (i := 13) rfl fl_1_29 rfl (rm_38_13 B) dX1_noteCorner_1 ?_
  refine a_iconst dX1_noteCorner_4 ic_3 ?_
  refine a_aload_n dX1_noteCorner_5 rfl rfl ?_
  refine b_getJ hK_1 kc_38 (i := 8) rfl fl_1_121 rfl dX1_noteCorner_6 ?_
  refine a_lload_n dX1_noteCorner_9 rfl rfl ?_
  refine a_lmul dX1_noteCorner_10 ?_
  obtain ⟨g1, h⟩ := h_gS h
  refine b_lastore kc_48 (h_inV g1) dX1_noteCorner_11 ?_
  obtain ⟨J2, eJ2, h⟩ := h_letS h
  refine a_memJ eJ2 ?_
  refine a_aload_n dX1_noteCorner_12 rfl rfl ?_
  refine b_getR hK_1 kc_38 (i := 13) rfl fl_1_29 rfl (rm_38_13 B) dX1_noteCorner_13 ?_
  refine a_iconst dX1_noteCorner_16 ic_3 ?_
  obtain ⟨g3, h⟩ := h_gS h
  refine b_laload kc_48 (h_inV g3) dX1_noteCorner_17 ?_
  obtain ⟨v5x3, ev5x3, h⟩ := h_letS h
  refine a_topJ ev5x3 ?_
  refine a_lstore (lv' := [(5, .long v5x3), (0, .ref 38), (1, .long v1), (3, .long v3)]) dX1_noteCorner_18 (by decide) rfl ?_
  refine a_iconst dX1_noteCorner_20 ic_0 ?_
  refine a_istore (lv' := [(7, .int (0 : Int32)), (5, .long v5x3), (0, .ref 38), (1, .long v1), (3, .long v3)]) dX1_noteCorner_21 (by decide) rfl ?_
  refine a_sub (lv' := [(0, .ref 38), (1, .long v1), (3, .long v3), (5, .long v5x3), (7, .int (0 : Int32))]) [2, 3, 4, 1, 0] rfl ?_
  exact sCo_noteCorner_L23 (d0 + 1) (by omega) hF v1 v3 v5x3 (0 : Int32) I J2 B _ h
/-! CoinLoops$Corners.noteEnds()V -/
theorem dX1_noteEnds_0 : decode cX1_noteEnds 0 = .ok (.aload_n 0, 1) := by decide +kernel
theorem dX1_noteEnds_1 : decode cX1_noteEnds 1 = .ok (.getfield 125, 3) := by decide +kernel
theorem dX1_noteEnds_4 : decode cX1_noteEnds 4 = .ok (.ifCond .eq 19, 3) := by decide +kernel
theorem dX1_noteEnds_7 : decode cX1_noteEnds 7 = .ok (.aload_n 0, 1) := by decide +kernel
theorem dX1_noteEnds_8 : decode cX1_noteEnds 8 = .ok (.aload_n 0, 1) := by decide +kernel
theorem dX1_noteEnds_9 : decode cX1_noteEnds 9 = .ok (.getfield 23, 3) := by decide +kernel
theorem dX1_noteEnds_12 : decode cX1_noteEnds 12 = .ok (.iconst 0, 1) := by decide +kernel
theorem dX1_noteEnds_13 : decode cX1_noteEnds 13 = .ok (.laload, 1) := by decide +kernel
theorem dX1_noteEnds_14 : decode cX1_noteEnds 14 = .ok (.aload_n 0, 1) := by decide +kernel
theorem dX1_noteEnds_15 : decode cX1_noteEnds 15 = .ok (.getfield 23, 3) := by decide +kernel
theorem dX1_noteEnds_18 : decode cX1_noteEnds 18 = .ok (.iconst 1, 1) := by decide +kernel
theorem dX1_noteEnds_19 : decode cX1_noteEnds 19 = .ok (.laload, 1) := by decide +kernel
theorem dX1_noteEnds_20 : decode cX1_noteEnds 20 = .ok (.invokevirtual 138, 3) := by decide +kernel
theorem dX1_noteEnds_23 : decode cX1_noteEnds 23 = .ok (.aload_n 0, 1) := by decide +kernel
theorem dX1_noteEnds_24 : decode cX1_noteEnds 24 = .ok (.getfield 128, 3) := by decide +kernel
theorem dX1_noteEnds_27 : decode cX1_noteEnds 27 = .ok (.ifCond .eq 19, 3) := by decide +kernel
theorem dX1_noteEnds_30 : decode cX1_noteEnds 30 = .ok (.aload_n 0, 1) := by decide +kernel
theorem dX1_noteEnds_31 : decode cX1_noteEnds 31 = .ok (.aload_n 0, 1) := by decide +kernel
theorem dX1_noteEnds_32 : decode cX1_noteEnds 32 = .ok (.getfield 26, 3) := by decide +kernel
theorem dX1_noteEnds_35 : decode cX1_noteEnds 35 = .ok (.iconst 0, 1) := by decide +kernel
theorem dX1_noteEnds_36 : decode cX1_noteEnds 36 = .ok (.laload, 1) := by decide +kernel
theorem dX1_noteEnds_37 : decode cX1_noteEnds 37 = .ok (.aload_n 0, 1) := by decide +kernel
theorem dX1_noteEnds_38 : decode cX1_noteEnds 38 = .ok (.getfield 26, 3) := by decide +kernel
theorem dX1_noteEnds_41 : decode cX1_noteEnds 41 = .ok (.iconst 1, 1) := by decide +kernel
theorem dX1_noteEnds_42 : decode cX1_noteEnds 42 = .ok (.laload, 1) := by decide +kernel
theorem dX1_noteEnds_43 : decode cX1_noteEnds 43 = .ok (.invokevirtual 138, 3) := by decide +kernel
theorem dX1_noteEnds_46 : decode cX1_noteEnds 46 = .ok (.return_, 1) := by decide +kernel
def mCo_noteEnds_23   (I : hI) (J : hJ) : Option (hI × hJ) :=
  if (I 38 10) = 0 then
    some (I, J)
  else
    (h_g (h_in (0 : Int32) 2) <|
    h_g (h_in (1 : Int32) 2) <|
    (mCo_noteCorner (J 47 (0 : Int32).toNatClampNeg) (J 47 (1 : Int32).toNatClampNeg) I J).bind fun q3 =>
    some (q3.1, q3.2))
set_option maxHeartbeats 4000000 in
theorem sCo_noteEnds_23 (d : Nat) (hd : 3 + 1 ≤ d)  (I : hI) (J : hJ) (B : Bool × Bool) (q : hI × hJ) (h : mCo_noteEnds_23 I J = some q) : AW hFT cX1_noteEnds 1 none RX1 kdC d [(0, .ref 38)] 23 [] (I, J, RM B) none (q.1, q.2, RM B) := by
  obtain ⟨d0, rfl, hd0⟩ := h_mono hd
  unfold mCo_noteEnds_23 at h
  refine a_aload_n dX1_noteEnds_23 rfl rfl ?_
  refine b_getI hK_1 kc_38 (i := 10) rfl fl_1_128 rfl dX1_noteEnds_24 ?_
  refine a_if_eq (tgt := 46) dX1_noteEnds_27 (by decide) (fun c => ?_) (fun c => ?_)
  · replace h := h_iteT c h
    cases h
    exact a_vret dX1_noteEnds_46
  · replace h := h_iteF c h
    refine a_aload_n dX1_noteEnds_30 rfl rfl ?_
    refine a_aload_n dX1_noteEnds_31 rfl rfl ?_
    refine b_getR hK_1 kc_38 (i := 12) rfl fl_1_26 rfl (rm_38_12 B) dX1_noteEnds_32 ?_
    refine a_iconst dX1_noteEnds_35 ic_0 ?_
    obtain ⟨g1, h⟩ := h_gS h
    refine b_laload kc_47 (h_inV g1) dX1_noteEnds_36 ?_
    refine a_aload_n dX1_noteEnds_37 rfl rfl ?_
    refine b_getR hK_1 kc_38 (i := 12) rfl fl_1_26 rfl (rm_38_12 B) dX1_noteEnds_38 ?_
    refine a_iconst dX1_noteEnds_41 ic_1 ?_
    obtain ⟨g2, h⟩ := h_gS h
    refine b_laload kc_47 (h_inV g2) dX1_noteEnds_42 ?_
    obtain ⟨q3, cq3, h⟩ := h_bindS h
    refine a_callV0 [] yy_X1_noteCorner ml_1_138 kc_38 rfl (sCo_noteCorner _ (by omega) (J 47 (0 : Int32).toNatClampNeg) (J 47 (1 : Int32).toNatClampNeg) I J B q3 cq3) rfl rfl (Nat.le_of_ble_eq_true rfl) dX1_noteEnds_43 ?_
    cases h
    exact a_vret dX1_noteEnds_46
def mCo_noteEnds   (I : hI) (J : hJ) : Option (hI × hJ) :=
  if (I 38 9) = 0 then
    mCo_noteEnds_23 I J
  else
    (h_g (h_in (0 : Int32) 2) <|
    h_g (h_in (1 : Int32) 2) <|
    (mCo_noteCorner (J 46 (0 : Int32).toNatClampNeg) (J 46 (1 : Int32).toNatClampNeg) I J).bind fun q3 =>
    mCo_noteEnds_23 q3.1 q3.2)
set_option maxHeartbeats 4000000 in
theorem sCo_noteEnds (d : Nat) (hd : 3 + 1 ≤ d)  (I : hI) (J : hJ) (B : Bool × Bool) (q : hI × hJ) (h : mCo_noteEnds I J = some q) : HMet hFT yX1_noteEnds cX1_noteEnds 1 none kdC d [.ref 38] (I, J, RM B) none (q.1, q.2, RM B) := by
  obtain ⟨d0, rfl, hd0⟩ := h_mono hd
  refine HMet.of (by decide) (Nat.le_of_ble_eq_true rfl) ?_
  show AW hFT cX1_noteEnds 1 none RX1 kdC (d0 + 1) [(0, .ref 38)] 0 [] (I, J, RM B) none (q.1, q.2, RM B)
  unfold mCo_noteEnds at h
  refine a_aload_n dX1_noteEnds_0 rfl rfl ?_
  refine b_getI hK_1 kc_38 (i := 9) rfl fl_1_125 rfl dX1_noteEnds_1 ?_
  refine a_if_eq (tgt := 23) dX1_noteEnds_4 (by decide) (fun c => ?_) (fun c => ?_)
  · replace h := h_iteT c h
    exact sCo_noteEnds_23 (d0 + 1) (by omega)  I J B _ h
  · replace h := h_iteF c h
    refine a_aload_n dX1_noteEnds_7 rfl rfl ?_
    refine a_aload_n dX1_noteEnds_8 rfl rfl ?_
    refine b_getR hK_1 kc_38 (i := 11) rfl fl_1_23 rfl (rm_38_11 B) dX1_noteEnds_9 ?_
    refine a_iconst dX1_noteEnds_12 ic_0 ?_
    obtain ⟨g1, h⟩ := h_gS h
    refine b_laload kc_46 (h_inV g1) dX1_noteEnds_13 ?_
    refine a_aload_n dX1_noteEnds_14 rfl rfl ?_
    refine b_getR hK_1 kc_38 (i := 11) rfl fl_1_23 rfl (rm_38_11 B) dX1_noteEnds_15 ?_
    refine a_iconst dX1_noteEnds_18 ic_1 ?_
    obtain ⟨g2, h⟩ := h_gS h
    refine b_laload kc_46 (h_inV g2) dX1_noteEnds_19 ?_
    obtain ⟨q3, cq3, h⟩ := h_bindS h
    refine a_callV0 [] yy_X1_noteCorner ml_1_138 kc_38 rfl (sCo_noteCorner _ (by omega) (J 46 (0 : Int32).toNatClampNeg) (J 46 (1 : Int32).toNatClampNeg) I J B q3 cq3) rfl rfl (Nat.le_of_ble_eq_true rfl) dX1_noteEnds_20 ?_
    exact sCo_noteEnds_23 (d0 + 1) (by omega)  q3.1 q3.2 B _ h
/-! CoinLoops$Corners.prepare()V -/
theorem dX1_prepare_0 : decode cX1_prepare 0 = .ok (.aload_n 0, 1) := by decide +kernel
theorem dX1_prepare_1 : decode cX1_prepare 1 = .ok (.getfield 39, 3) := by decide +kernel
theorem dX1_prepare_4 : decode cX1_prepare 4 = .ok (.ifCond .eq 4, 3) := by decide +kernel
theorem dX1_prepare_7 : decode cX1_prepare 7 = .ok (.return_, 1) := by decide +kernel
theorem dX1_prepare_8 : decode cX1_prepare 8 = .ok (.aload_n 0, 1) := by decide +kernel
theorem dX1_prepare_9 : decode cX1_prepare 9 = .ok (.iconst 1, 1) := by decide +kernel
theorem dX1_prepare_10 : decode cX1_prepare 10 = .ok (.putfield 39, 3) := by decide +kernel
theorem dX1_prepare_13 : decode cX1_prepare 13 = .ok (.aload_n 0, 1) := by decide +kernel
theorem dX1_prepare_14 : decode cX1_prepare 14 = .ok (.iconst 0, 1) := by decide +kernel
theorem dX1_prepare_15 : decode cX1_prepare 15 = .ok (.putfield 43, 3) := by decide +kernel
theorem dX1_prepare_18 : decode cX1_prepare 18 = .ok (.aload_n 0, 1) := by decide +kernel
theorem dX1_prepare_19 : decode cX1_prepare 19 = .ok (.invokevirtual 46, 3) := by decide +kernel
theorem dX1_prepare_22 : decode cX1_prepare 22 = .ok (.aload_n 0, 1) := by decide +kernel
theorem dX1_prepare_23 : decode cX1_prepare 23 = .ok (.getfield 49, 3) := by decide +kernel
theorem dX1_prepare_26 : decode cX1_prepare 26 = .ok (.ifCond .ne 10, 3) := by decide +kernel
theorem dX1_prepare_29 : decode cX1_prepare 29 = .ok (.aload_n 0, 1) := by decide +kernel
theorem dX1_prepare_30 : decode cX1_prepare 30 = .ok (.getfield 53, 3) := by decide +kernel
theorem dX1_prepare_33 : decode cX1_prepare 33 = .ok (.goto 4, 3) := by decide +kernel
theorem dX1_prepare_36 : decode cX1_prepare 36 = .ok (.iconst 1, 1) := by decide +kernel
theorem dX1_prepare_37 : decode cX1_prepare 37 = .ok (.istore_n 1, 1) := by decide +kernel
theorem dX1_prepare_38 : decode cX1_prepare 38 = .ok (.aload_n 0, 1) := by decide +kernel
theorem dX1_prepare_39 : decode cX1_prepare 39 = .ok (.getfield 49, 3) := by decide +kernel
theorem dX1_prepare_42 : decode cX1_prepare 42 = .ok (.iconst 2, 1) := by decide +kernel
theorem dX1_prepare_43 : decode cX1_prepare 43 = .ok (.if_icmp .ne 7, 3) := by decide +kernel
theorem dX1_prepare_46 : decode cX1_prepare 46 = .ok (.iconst 2, 1) := by decide +kernel
theorem dX1_prepare_47 : decode cX1_prepare 47 = .ok (.goto 7, 3) := by decide +kernel
theorem dX1_prepare_50 : decode cX1_prepare 50 = .ok (.aload_n 0, 1) := by decide +kernel
theorem dX1_prepare_51 : decode cX1_prepare 51 = .ok (.getfield 53, 3) := by decide +kernel
theorem dX1_prepare_54 : decode cX1_prepare 54 = .ok (.istore_n 2, 1) := by decide +kernel
theorem dX1_prepare_55 : decode cX1_prepare 55 = .ok (.iconst 0, 1) := by decide +kernel
theorem dX1_prepare_56 : decode cX1_prepare 56 = .ok (.istore_n 3, 1) := by decide +kernel
theorem dX1_prepare_57 : decode cX1_prepare 57 = .ok (.iload_n 3, 1) := by decide +kernel
theorem dX1_prepare_58 : decode cX1_prepare 58 = .ok (.iload_n 1, 1) := by decide +kernel
theorem dX1_prepare_59 : decode cX1_prepare 59 = .ok (.if_icmp .ge 60, 3) := by decide +kernel
theorem dX1_prepare_62 : decode cX1_prepare 62 = .ok (.iload_n 3, 1) := by decide +kernel
theorem dX1_prepare_63 : decode cX1_prepare 63 = .ok (.bipush 92, 2) := by decide +kernel
theorem dX1_prepare_65 : decode cX1_prepare 65 = .ok (.if_icmp .ge 54, 3) := by decide +kernel
theorem dX1_prepare_68 : decode cX1_prepare 68 = .ok (.iload_n 3, 1) := by decide +kernel
theorem dX1_prepare_69 : decode cX1_prepare 69 = .ok (.iconst 1, 1) := by decide +kernel
theorem dX1_prepare_70 : decode cX1_prepare 70 = .ok (.iadd, 1) := by decide +kernel
theorem dX1_prepare_71 : decode cX1_prepare 71 = .ok (.istore 4, 2) := by decide +kernel
theorem dX1_prepare_73 : decode cX1_prepare 73 = .ok (.iload 4, 2) := by decide +kernel
theorem dX1_prepare_75 : decode cX1_prepare 75 = .ok (.iload_n 2, 1) := by decide +kernel
theorem dX1_prepare_76 : decode cX1_prepare 76 = .ok (.if_icmp .ge 37, 3) := by decide +kernel
theorem dX1_prepare_79 : decode cX1_prepare 79 = .ok (.iload 4, 2) := by decide +kernel
theorem dX1_prepare_81 : decode cX1_prepare 81 = .ok (.bipush 92, 2) := by decide +kernel
theorem dX1_prepare_83 : decode cX1_prepare 83 = .ok (.if_icmp .ge 30, 3) := by decide +kernel
theorem dX1_prepare_86 : decode cX1_prepare 86 = .ok (.aload_n 0, 1) := by decide +kernel
theorem dX1_prepare_87 : decode cX1_prepare 87 = .ok (.iload_n 3, 1) := by decide +kernel
theorem dX1_prepare_88 : decode cX1_prepare 88 = .ok (.iload 4, 2) := by decide +kernel
theorem dX1_prepare_90 : decode cX1_prepare 90 = .ok (.invokevirtual 56, 3) := by decide +kernel
theorem dX1_prepare_93 : decode cX1_prepare 93 = .ok (.ifCond .eq 14, 3) := by decide +kernel
theorem dX1_prepare_96 : decode cX1_prepare 96 = .ok (.aload_n 0, 1) := by decide +kernel
theorem dX1_prepare_97 : decode cX1_prepare 97 = .ok (.invokevirtual 60, 3) := by decide +kernel
theorem dX1_prepare_100 : decode cX1_prepare 100 = .ok (.ifCond .eq 7, 3) := by decide +kernel
theorem dX1_prepare_103 : decode cX1_prepare 103 = .ok (.aload_n 0, 1) := by decide +kernel
theorem dX1_prepare_104 : decode cX1_prepare 104 = .ok (.invokevirtual 64, 3) := by decide +kernel
theorem dX1_prepare_107 : decode cX1_prepare 107 = .ok (.iinc 4 1, 3) := by decide +kernel
theorem dX1_prepare_110 : decode cX1_prepare 110 = .ok (.goto (-37), 3) := by decide +kernel
theorem dX1_prepare_113 : decode cX1_prepare 113 = .ok (.iinc 3 1, 3) := by decide +kernel
theorem dX1_prepare_116 : decode cX1_prepare 116 = .ok (.goto (-59), 3) := by decide +kernel
theorem dX1_prepare_119 : decode cX1_prepare 119 = .ok (.return_, 1) := by decide +kernel
def mCo_prepare_B73 (k57 : Int32 → Int32 → Int32 → hI → hJ → Option (hI × hJ)) (k73 : Int32 → Int32 → Int32 → Int32 → hI → hJ → Option (hI × hJ)) (v1 : Int32) (v2 : Int32) (v3 : Int32) (v4 : Int32) (I : hI) (J : hJ) : Option (hI × hJ) :=
  if v2 ≤ v4 then
    k57 v1 v2 (v3 + (1 : Int32)) I J
  else
    (if (92 : Int32) ≤ v4 then
      k57 v1 v2 (v3 + (1 : Int32)) I J
    else
      ((mCo_makeLine v3 v4 J).bind fun q1 =>
      if q1.1 = 0 then
        k73 v1 v2 v3 (v4 + (1 : Int32)) I q1.2
      else
        ((mCo_cutLine I q1.2).bind fun q2 =>
        if q2.1 = 0 then
          k73 v1 v2 v3 (v4 + (1 : Int32)) q2.2.1 q2.2.2
        else
          ((mCo_noteEnds q2.2.1 q2.2.2).bind fun q3 =>
          k73 v1 v2 v3 (v4 + (1 : Int32)) q3.1 q3.2))))
set_option maxHeartbeats 4000000 in
theorem sCo_prepare_B73 (d : Nat) (hd : 4 + 1 ≤ d) (k57 : Int32 → Int32 → Int32 → hI → hJ → Option (hI × hJ)) (hk57 : ∀ (v1 : Int32) (v2 : Int32) (v3 : Int32) (I : hI) (J : hJ) (B : Bool × Bool) (q : hI × hJ), k57 v1 v2 v3 I J = some q → AW hFT cX1_prepare 5 none RX1 kdC d [(0, .ref 38), (1, .int v1), (2, .int v2), (3, .int v3)] 57 [] (I, J, RM B) none (q.1, q.2, RM B)) (k73 : Int32 → Int32 → Int32 → Int32 → hI → hJ → Option (hI × hJ)) (hk73 : ∀ (v1 : Int32) (v2 : Int32) (v3 : Int32) (v4 : Int32) (I : hI) (J : hJ) (B : Bool × Bool) (q : hI × hJ), k73 v1 v2 v3 v4 I J = some q → AW hFT cX1_prepare 5 none RX1 kdC d [(0, .ref 38), (1, .int v1), (2, .int v2), (3, .int v3), (4, .int v4)] 73 [] (I, J, RM B) none (q.1, q.2, RM B)) (v1 : Int32) (v2 : Int32) (v3 : Int32) (v4 : Int32) (I : hI) (J : hJ) (B : Bool × Bool) (q : hI × hJ) (h : mCo_prepare_B73 k57 k73 v1 v2 v3 v4 I J = some q) : AW hFT cX1_prepare 5 none RX1 kdC d [(0, .ref 38), (1, .int v1), (2, .int v2), (3, .int v3), (4, .int v4)] 73 [] (I, J, RM B) none (q.1, q.2, RM B) := by
  obtain ⟨d0, rfl, hd0⟩ := h_mono hd
  unfold mCo_prepare_B73 at h
  refine a_iload dX1_prepare_73 rfl ?_
  refine a_iload_n dX1_prepare_75 rfl rfl ?_
  refine a_icmp_ge (tgt := 113) dX1_prepare_76 (by decide) (fun c => ?_) (fun c => ?_)
  · replace h := h_iteT c h
    refine b_iinc (lv' := [(3, .int (v3 + (1 : Int32))), (0, .ref 38), (1, .int v1), (2, .int v2), (4, .int v4)]) dX1_prepare_113 rfl ic_1 (by decide) rfl ?_
    refine a_goto (tgt := 57) dX1_prepare_116 (by decide) ?_
    refine a_sub (lv' := [(0, .ref 38), (1, .int v1), (2, .int v2), (3, .int (v3 + (1 : Int32)))]) [1, 2, 3, 0] rfl ?_
    exact hk57 v1 v2 (v3 + (1 : Int32)) I J B _ h
  · replace h := h_iteF c h
    refine a_iload dX1_prepare_79 rfl ?_
    refine a_bipush dX1_prepare_81 bp_92 ?_
    refine a_icmp_ge (tgt := 113) dX1_prepare_83 (by decide) (fun c => ?_) (fun c => ?_)
    · replace h := h_iteT c h
      refine b_iinc (lv' := [(3, .int (v3 + (1 : Int32))), (0, .ref 38), (1, .int v1), (2, .int v2), (4, .int v4)]) dX1_prepare_113 rfl ic_1 (by decide) rfl ?_
      refine a_goto (tgt := 57) dX1_prepare_116 (by decide) ?_
      refine a_sub (lv' := [(0, .ref 38), (1, .int v1), (2, .int v2), (3, .int (v3 + (1 : Int32)))]) [1, 2, 3, 0] rfl ?_
      exact hk57 v1 v2 (v3 + (1 : Int32)) I J B _ h
    · replace h := h_iteF c h
      refine a_aload_n dX1_prepare_86 rfl rfl ?_
      refine a_iload_n dX1_prepare_87 rfl rfl ?_
      refine a_iload dX1_prepare_88 rfl ?_
      obtain ⟨q1, cq1, h⟩ := h_bindS h
      refine a_callV1 [] yy_X1_makeLine ml_1_56 kc_38 rfl (sCo_makeLine _ (by omega) v3 v4 I J B q1 cq1) rfl rfl (Nat.le_of_ble_eq_true rfl) dX1_prepare_90 ?_
      refine a_if_eq (tgt := 107) dX1_prepare_93 (by decide) (fun c => ?_) (fun c => ?_)
      · replace h := h_iteT c h
        refine b_iinc (lv' := [(4, .int (v4 + (1 : Int32))), (0, .ref 38), (1, .int v1), (2, .int v2), (3, .int v3)]) dX1_prepare_107 rfl ic_1 (by decide) rfl ?_
        refine a_goto (tgt := 73) dX1_prepare_110 (by decide) ?_
        refine a_sub (lv' := [(0, .ref 38), (1, .int v1), (2, .int v2), (3, .int v3), (4, .int (v4 + (1 : Int32)))]) [1, 2, 3, 4, 0] rfl ?_
        exact hk73 v1 v2 v3 (v4 + (1 : Int32)) I q1.2 B _ h
      · replace h := h_iteF c h
        refine a_aload_n dX1_prepare_96 rfl rfl ?_
        obtain ⟨q2, cq2, h⟩ := h_bindS h
        refine a_callV1 [] yy_X1_cutLine ml_1_60 kc_38 rfl (sCo_cutLine _ (by omega)  I q1.2 B q2 cq2) rfl rfl (Nat.le_of_ble_eq_true rfl) dX1_prepare_97 ?_
        refine a_if_eq (tgt := 107) dX1_prepare_100 (by decide) (fun c => ?_) (fun c => ?_)
        · replace h := h_iteT c h
          refine b_iinc (lv' := [(4, .int (v4 + (1 : Int32))), (0, .ref 38), (1, .int v1), (2, .int v2), (3, .int v3)]) dX1_prepare_107 rfl ic_1 (by decide) rfl ?_
          refine a_goto (tgt := 73) dX1_prepare_110 (by decide) ?_
          refine a_sub (lv' := [(0, .ref 38), (1, .int v1), (2, .int v2), (3, .int v3), (4, .int (v4 + (1 : Int32)))]) [1, 2, 3, 4, 0] rfl ?_
          exact hk73 v1 v2 v3 (v4 + (1 : Int32)) q2.2.1 q2.2.2 B _ h
        · replace h := h_iteF c h
          refine a_aload_n dX1_prepare_103 rfl rfl ?_
          obtain ⟨q3, cq3, h⟩ := h_bindS h
          refine a_callV0 [] yy_X1_noteEnds ml_1_64 kc_38 rfl (sCo_noteEnds _ (by omega)  q2.2.1 q2.2.2 B q3 cq3) rfl rfl (Nat.le_of_ble_eq_true rfl) dX1_prepare_104 ?_
          refine b_iinc (lv' := [(4, .int (v4 + (1 : Int32))), (0, .ref 38), (1, .int v1), (2, .int v2), (3, .int v3)]) dX1_prepare_107 rfl ic_1 (by decide) rfl ?_
          refine a_goto (tgt := 73) dX1_prepare_110 (by decide) ?_
          refine a_sub (lv' := [(0, .ref 38), (1, .int v1), (2, .int v2), (3, .int v3), (4, .int (v4 + (1 : Int32)))]) [1, 2, 3, 4, 0] rfl ?_
          exact hk73 v1 v2 v3 (v4 + (1 : Int32)) q3.1 q3.2 B _ h
def mCo_prepare_L73 (k57 : Int32 → Int32 → Int32 → hI → hJ → Option (hI × hJ)) : Nat → Int32 → Int32 → Int32 → Int32 → hI → hJ → Option (hI × hJ)
  | 0 => fun _ _ _ _ _ _ => none
  | n + 1 => mCo_prepare_B73 k57 (mCo_prepare_L73 k57 n)
theorem sCo_prepare_L73 (d : Nat) (hd : 4 + 1 ≤ d) (k57 : Int32 → Int32 → Int32 → hI → hJ → Option (hI × hJ)) (hk57 : ∀ (v1 : Int32) (v2 : Int32) (v3 : Int32) (I : hI) (J : hJ) (B : Bool × Bool) (q : hI × hJ), k57 v1 v2 v3 I J = some q → AW hFT cX1_prepare 5 none RX1 kdC d [(0, .ref 38), (1, .int v1), (2, .int v2), (3, .int v3)] 57 [] (I, J, RM B) none (q.1, q.2, RM B)) : ∀ (n : Nat) (v1 : Int32) (v2 : Int32) (v3 : Int32) (v4 : Int32) (I : hI) (J : hJ) (B : Bool × Bool) (q : hI × hJ) (h : mCo_prepare_L73 k57 n v1 v2 v3 v4 I J = some q), AW hFT cX1_prepare 5 none RX1 kdC d [(0, .ref 38), (1, .int v1), (2, .int v2), (3, .int v3), (4, .int v4)] 73 [] (I, J, RM B) none (q.1, q.2, RM B)
  | 0, _, _, _, _, _, _, _, q, h => by cases h
  | n + 1, v1, v2, v3, v4, I, J, B, q, h => sCo_prepare_B73 d hd k57 hk57 (mCo_prepare_L73 k57 n) (sCo_prepare_L73 d hd k57 hk57 n) v1 v2 v3 v4 I J B q h
def mCo_prepare_B57 (k57 : Int32 → Int32 → Int32 → hI → hJ → Option (hI × hJ)) (v1 : Int32) (v2 : Int32) (v3 : Int32) (I : hI) (J : hJ) : Option (hI × hJ) :=
  if v1 ≤ v3 then
    some (I, J)
  else
    (if (92 : Int32) ≤ v3 then
      some (I, J)
    else
      (h_let (v3 + (1 : Int32)) fun v4x0 =>
      mCo_prepare_L73 k57 hF v1 v2 v3 v4x0 I J))
set_option maxHeartbeats 4000000 in
theorem sCo_prepare_B57 (d : Nat) (hd : 4 + 1 ≤ d) (k57 : Int32 → Int32 → Int32 → hI → hJ → Option (hI × hJ)) (hk57 : ∀ (v1 : Int32) (v2 : Int32) (v3 : Int32) (I : hI) (J : hJ) (B : Bool × Bool) (q : hI × hJ), k57 v1 v2 v3 I J = some q → AW hFT cX1_prepare 5 none RX1 kdC d [(0, .ref 38), (1, .int v1), (2, .int v2), (3, .int v3)] 57 [] (I, J, RM B) none (q.1, q.2, RM B)) (v1 : Int32) (v2 : Int32) (v3 : Int32) (I : hI) (J : hJ) (B : Bool × Bool) (q : hI × hJ) (h : mCo_prepare_B57 k57 v1 v2 v3 I J = some q) : AW hFT cX1_prepare 5 none RX1 kdC d [(0, .ref 38), (1, .int v1), (2, .int v2), (3, .int v3)] 57 [] (I, J, RM B) none (q.1, q.2, RM B) := by
  obtain ⟨d0, rfl, hd0⟩ := h_mono hd
  unfold mCo_prepare_B57 at h
  refine a_iload_n dX1_prepare_57 rfl rfl ?_
  refine a_iload_n dX1_prepare_58 rfl rfl ?_
  refine a_icmp_ge (tgt := 119) dX1_prepare_59 (by decide) (fun c => ?_) (fun c => ?_)
  · replace h := h_iteT c h
    cases h
    exact a_vret dX1_prepare_119
  · replace h := h_iteF c h
    refine a_iload_n dX1_prepare_62 rfl rfl ?_
    refine a_bipush dX1_prepare_63 bp_92 ?_
    refine a_icmp_ge (tgt := 119) dX1_prepare_65 (by decide) (fun c => ?_) (fun c => ?_)
    · replace h := h_iteT c h
      cases h
      exact a_vret dX1_prepare_119
    · replace h := h_iteF c h
      refine a_iload_n dX1_prepare_68 rfl rfl ?_
      refine a_iconst dX1_prepare_69 ic_1 ?_
      refine a_iadd dX1_prepare_70 ?_
      obtain ⟨v4x0, ev4x0, h⟩ := h_letS h
      refine a_topI ev4x0 ?_
      refine a_istore (lv' := [(4, .int v4x0), (0, .ref 38), (1, .int v1), (2, .int v2), (3, .int v3)]) dX1_prepare_71 (by decide) rfl ?_
      refine a_sub (lv' := [(0, .ref 38), (1, .int v1), (2, .int v2), (3, .int v3), (4, .int v4x0)]) [1, 2, 3, 4, 0] rfl ?_
      exact sCo_prepare_L73 (d0 + 1) (by omega) k57 hk57 hF v1 v2 v3 v4x0 I J B _ h
def mCo_prepare_L57  : Nat → Int32 → Int32 → Int32 → hI → hJ → Option (hI × hJ)
  | 0 => fun _ _ _ _ _ => none
  | n + 1 => mCo_prepare_B57 (mCo_prepare_L57 n)
theorem sCo_prepare_L57 (d : Nat) (hd : 4 + 1 ≤ d) : ∀ (n : Nat) (v1 : Int32) (v2 : Int32) (v3 : Int32) (I : hI) (J : hJ) (B : Bool × Bool) (q : hI × hJ) (h : mCo_prepare_L57 n v1 v2 v3 I J = some q), AW hFT cX1_prepare 5 none RX1 kdC d [(0, .ref 38), (1, .int v1), (2, .int v2), (3, .int v3)] 57 [] (I, J, RM B) none (q.1, q.2, RM B)
  | 0, _, _, _, _, _, _, q, h => by cases h
  | n + 1, v1, v2, v3, I, J, B, q, h => sCo_prepare_B57 d hd (mCo_prepare_L57 n) (sCo_prepare_L57 d hd n) v1 v2 v3 I J B q h
def mCo_prepare_37  (vs0 : Int32) (I : hI) (J : hJ) : Option (hI × hJ) :=
  if (I 38 5) = (2 : Int32) then
    mCo_prepare_L57 hF vs0 (2 : Int32) (0 : Int32) I J
  else
    (h_let (I 38 4) fun v2x0 =>
    mCo_prepare_L57 hF vs0 v2x0 (0 : Int32) I J)
set_option maxHeartbeats 4000000 in
theorem sCo_prepare_37 (d : Nat) (hd : 4 + 1 ≤ d) (vs0 : Int32) (I : hI) (J : hJ) (B : Bool × Bool) (q : hI × hJ) (h : mCo_prepare_37 vs0 I J = some q) : AW hFT cX1_prepare 5 none RX1 kdC d [(0, .ref 38)] 37 [.int vs0] (I, J, RM B) none (q.1, q.2, RM B) := by
  obtain ⟨d0, rfl, hd0⟩ := h_mono hd
  unfold mCo_prepare_37 at h
  refine a_istore_n (lv' := [(1, .int vs0), (0, .ref 38)]) dX1_prepare_37 rfl (by decide) rfl ?_
  refine a_aload_n dX1_prepare_38 rfl rfl ?_
  refine b_getI hK_1 kc_38 (i := 5) rfl fl_1_49 rfl dX1_prepare_39 ?_
  refine a_iconst dX1_prepare_42 ic_2 ?_
  refine a_icmp_ne (tgt := 50) dX1_prepare_43 (by decide) (fun c => ?_) (fun c => ?_)
  · replace h := h_iteF c h
    refine a_aload_n dX1_prepare_50 rfl rfl ?_
    refine b_getI hK_1 kc_38 (i := 4) rfl fl_1_53 rfl dX1_prepare_51 ?_
    obtain ⟨v2x0, ev2x0, h⟩ := h_letS h
    refine a_topI ev2x0 ?_
    refine a_istore_n (lv' := [(2, .int v2x0), (1, .int vs0), (0, .ref 38)]) dX1_prepare_54 rfl (by decide) rfl ?_
    refine a_iconst dX1_prepare_55 ic_0 ?_
    refine a_istore_n (lv' := [(3, .int (0 : Int32)), (2, .int v2x0), (1, .int vs0), (0, .ref 38)]) dX1_prepare_56 rfl (by decide) rfl ?_
    refine a_sub (lv' := [(0, .ref 38), (1, .int vs0), (2, .int v2x0), (3, .int (0 : Int32))]) [3, 2, 1, 0] rfl ?_
    exact sCo_prepare_L57 (d0 + 1) (by omega) hF vs0 v2x0 (0 : Int32) I J B _ h
  · replace h := h_iteT c h
    refine a_iconst dX1_prepare_46 ic_2 ?_
    refine a_goto (tgt := 54) dX1_prepare_47 (by decide) ?_
    refine a_istore_n (lv' := [(2, .int (2 : Int32)), (1, .int vs0), (0, .ref 38)]) dX1_prepare_54 rfl (by decide) rfl ?_
    refine a_iconst dX1_prepare_55 ic_0 ?_
    refine a_istore_n (lv' := [(3, .int (0 : Int32)), (2, .int (2 : Int32)), (1, .int vs0), (0, .ref 38)]) dX1_prepare_56 rfl (by decide) rfl ?_
    refine a_sub (lv' := [(0, .ref 38), (1, .int vs0), (2, .int (2 : Int32)), (3, .int (0 : Int32))]) [3, 2, 1, 0] rfl ?_
    exact sCo_prepare_L57 (d0 + 1) (by omega) hF vs0 (2 : Int32) (0 : Int32) I J B _ h
def mCo_prepare   (I : hI) (J : hJ) : Option (hI × hJ) :=
  if (I 38 1) = 0 then
    (h_let (h_u I 38 1 (1 : Int32)) fun I1 =>
    h_let (h_u I1 38 2 (0 : Int32)) fun I2 =>
    (mCo_makeConditions I2 J).bind fun q3 =>
    if (q3.1 38 5) = 0 then
      mCo_prepare_37 (q3.1 38 4) q3.1 q3.2
    else
      mCo_prepare_37 (1 : Int32) q3.1 q3.2)
  else
    some (I, J)
set_option maxHeartbeats 4000000 in
theorem sCo_prepare (d : Nat) (hd : 4 + 1 ≤ d)  (I : hI) (J : hJ) (B : Bool × Bool) (q : hI × hJ) (h : mCo_prepare I J = some q) : HMet hFT yX1_prepare cX1_prepare 5 none kdC d [.ref 38] (I, J, RM B) none (q.1, q.2, RM B) := by
  obtain ⟨d0, rfl, hd0⟩ := h_mono hd
  refine HMet.of (by decide) (Nat.le_of_ble_eq_true rfl) ?_
  show AW hFT cX1_prepare 5 none RX1 kdC (d0 + 1) [(0, .ref 38)] 0 [] (I, J, RM B) none (q.1, q.2, RM B)
  unfold mCo_prepare at h
  refine a_aload_n dX1_prepare_0 rfl rfl ?_
  refine b_getI hK_1 kc_38 (i := 1) rfl fl_1_39 rfl dX1_prepare_1 ?_
  refine a_if_eq (tgt := 8) dX1_prepare_4 (by decide) (fun c => ?_) (fun c => ?_)
  · replace h := h_iteT c h
    refine a_aload_n dX1_prepare_8 rfl rfl ?_
    refine a_iconst dX1_prepare_9 ic_1 ?_
    refine b_putI hK_1 kc_38 (i := 1) rfl fl_1_39 rfl rfl h_Z1 dX1_prepare_10 ?_
    obtain ⟨I1, eI1, h⟩ := h_letS h
    refine a_memI eI1 ?_
    refine a_aload_n dX1_prepare_13 rfl rfl ?_
    refine a_iconst dX1_prepare_14 ic_0 ?_
    refine b_putI hK_1 kc_38 (i := 2) rfl fl_1_43 rfl rfl h_Z0 dX1_prepare_15 ?_
    obtain ⟨I2, eI2, h⟩ := h_letS h
    refine a_memI eI2 ?_
    refine a_aload_n dX1_prepare_18 rfl rfl ?_
    obtain ⟨q3, cq3, h⟩ := h_bindS h
    refine a_callV0 [] yy_X1_makeConditions ml_1_46 kc_38 rfl (sCo_makeConditions _ (by omega)  I2 J B q3 cq3) rfl rfl (Nat.le_of_ble_eq_true rfl) dX1_prepare_19 ?_
    refine a_aload_n dX1_prepare_22 rfl rfl ?_
    refine b_getI hK_1 kc_38 (i := 5) rfl fl_1_49 rfl dX1_prepare_23 ?_
    refine a_if_ne (tgt := 36) dX1_prepare_26 (by decide) (fun c => ?_) (fun c => ?_)
    · replace h := h_iteF c h
      refine a_iconst dX1_prepare_36 ic_1 ?_
      exact sCo_prepare_37 (d0 + 1) (by omega) (1 : Int32) q3.1 q3.2 B _ h
    · replace h := h_iteT c h
      refine a_aload_n dX1_prepare_29 rfl rfl ?_
      refine b_getI hK_1 kc_38 (i := 4) rfl fl_1_53 rfl dX1_prepare_30 ?_
      refine a_goto (tgt := 37) dX1_prepare_33 (by decide) ?_
      exact sCo_prepare_37 (d0 + 1) (by omega) (q3.1 38 4) q3.1 q3.2 B _ h
  · replace h := h_iteF c h
    cases h
    exact a_vret dX1_prepare_7
/-! CoinLoops.lowest(JJI)J -/
theorem dX10_lowest_0 : decode cX10_lowest 0 = .ok (.lload_n 0, 1) := by decide +kernel
theorem dX10_lowest_1 : decode cX10_lowest 1 = .ok (.lload_n 2, 1) := by decide +kernel
theorem dX10_lowest_2 : decode cX10_lowest 2 = .ok (.invokestatic 312, 3) := by decide +kernel
theorem dX10_lowest_5 : decode cX10_lowest 5 = .ok (.lstore 5, 2) := by decide +kernel
theorem dX10_lowest_7 : decode cX10_lowest 7 = .ok (.lload 5, 2) := by decide +kernel
theorem dX10_lowest_9 : decode cX10_lowest 9 = .ok (.lconst 0, 1) := by decide +kernel
theorem dX10_lowest_10 : decode cX10_lowest 10 = .ok (.lcmp, 1) := by decide +kernel
theorem dX10_lowest_11 : decode cX10_lowest 11 = .ok (.ifCond .ne 14, 3) := by decide +kernel
theorem dX10_lowest_14 : decode cX10_lowest 14 = .ok (.iload 4, 2) := by decide +kernel
theorem dX10_lowest_16 : decode cX10_lowest 16 = .ok (.ifCond .ne 7, 3) := by decide +kernel
theorem dX10_lowest_19 : decode cX10_lowest 19 = .ok (.lload_n 0, 1) := by decide +kernel
theorem dX10_lowest_20 : decode cX10_lowest 20 = .ok (.goto 4, 3) := by decide +kernel
theorem dX10_lowest_23 : decode cX10_lowest 23 = .ok (.lload_n 2, 1) := by decide +kernel
theorem dX10_lowest_24 : decode cX10_lowest 24 = .ok (.lreturn, 1) := by decide +kernel
theorem dX10_lowest_25 : decode cX10_lowest 25 = .ok (.iload 4, 2) := by decide +kernel
theorem dX10_lowest_27 : decode cX10_lowest 27 = .ok (.ifCond .ne 10, 3) := by decide +kernel
theorem dX10_lowest_30 : decode cX10_lowest 30 = .ok (.lload_n 0, 1) := by decide +kernel
theorem dX10_lowest_31 : decode cX10_lowest 31 = .ok (.lload 5, 2) := by decide +kernel
theorem dX10_lowest_33 : decode cX10_lowest 33 = .ok (.ldiv, 1) := by decide +kernel
theorem dX10_lowest_34 : decode cX10_lowest 34 = .ok (.goto 7, 3) := by decide +kernel
theorem dX10_lowest_37 : decode cX10_lowest 37 = .ok (.lload_n 2, 1) := by decide +kernel
theorem dX10_lowest_38 : decode cX10_lowest 38 = .ok (.lload 5, 2) := by decide +kernel
theorem dX10_lowest_40 : decode cX10_lowest 40 = .ok (.ldiv, 1) := by decide +kernel
theorem dX10_lowest_41 : decode cX10_lowest 41 = .ok (.lreturn, 1) := by decide +kernel
def mC_lowest  (v0 : Int64) (v2 : Int64) (v4 : Int32)  : Option (Int64) :=
  (mC_divisor v0 v2).bind fun q1 =>
  if q1 = (0 : Int64) then
    (if v4 = 0 then
      some v0
    else
      some v2)
  else
    (if v4 = 0 then
      (h_g (h_nzL q1) <|
      some (v0 / q1))
    else
      (h_g (h_nzL q1) <|
      some (v2 / q1)))
set_option maxHeartbeats 4000000 in
theorem sC_lowest (d : Nat) (hd : 1 + 1 ≤ d) (v0 : Int64) (v2 : Int64) (v4 : Int32) (I : hI) (J : hJ) (B : Bool × Bool) (q : Int64) (h : mC_lowest v0 v2 v4 = some q) : HMet hFT yX10_lowest cX10_lowest 7 (some .long) kdC d [.long v0, .long v2, .int v4] (I, J, RM B) (some (.long q)) (I, J, RM B) := by
  obtain ⟨d0, rfl, hd0⟩ := h_mono hd
  refine HMet.of (by decide) (Nat.le_of_ble_eq_true rfl) ?_
  show AW hFT cX10_lowest 7 (some .long) RX10 kdC (d0 + 1) [(0, .long v0), (2, .long v2), (4, .int v4)] 0 [] (I, J, RM B) (some (.long q)) (I, J, RM B)
  unfold mC_lowest at h
  refine a_lload_n dX10_lowest_0 rfl rfl ?_
  refine a_lload_n dX10_lowest_1 rfl rfl ?_
  obtain ⟨q1, cq1, h⟩ := h_bindS h
  refine a_callS1 [] yy_X10_divisor ml_10_312 (sC_divisor _ (by omega) v0 v2 I J B q1 cq1) rfl rfl (Nat.le_of_ble_eq_true rfl) dX10_lowest_2 ?_
  refine a_lstore (lv' := [(5, .long q1), (0, .long v0), (2, .long v2), (4, .int v4)]) dX10_lowest_5 (by decide) rfl ?_
  refine a_lload dX10_lowest_7 rfl ?_
  refine a_lconst dX10_lowest_9 lc_0 ?_
  refine a_lcmp_ne (tgt := 25) dX10_lowest_10 dX10_lowest_11 (by decide) (fun c => ?_) (fun c => ?_)
  · replace h := h_iteF c h
    refine a_iload dX10_lowest_25 rfl ?_
    refine a_if_ne (tgt := 37) dX10_lowest_27 (by decide) (fun c => ?_) (fun c => ?_)
    · replace h := h_iteF c h
      refine a_lload_n dX10_lowest_37 rfl rfl ?_
      refine a_lload dX10_lowest_38 rfl ?_
      obtain ⟨g2, h⟩ := h_gS h
      refine a_ldiv dX10_lowest_40 (h_nzLV g2) ?_
      cases h
      exact a_lret dX10_lowest_41
    · replace h := h_iteT c h
      refine a_lload_n dX10_lowest_30 rfl rfl ?_
      refine a_lload dX10_lowest_31 rfl ?_
      obtain ⟨g2, h⟩ := h_gS h
      refine a_ldiv dX10_lowest_33 (h_nzLV g2) ?_
      refine a_goto (tgt := 41) dX10_lowest_34 (by decide) ?_
      cases h
      exact a_lret dX10_lowest_41
  · replace h := h_iteT c h
    refine a_iload dX10_lowest_14 rfl ?_
    refine a_if_ne (tgt := 23) dX10_lowest_16 (by decide) (fun c => ?_) (fun c => ?_)
    · replace h := h_iteF c h
      refine a_lload_n dX10_lowest_23 rfl rfl ?_
      cases h
      exact a_lret dX10_lowest_24
    · replace h := h_iteT c h
      refine a_lload_n dX10_lowest_19 rfl rfl ?_
      refine a_goto (tgt := 24) dX10_lowest_20 (by decide) ?_
      cases h
      exact a_lret dX10_lowest_24
/-! CoinLoops$Corners.told(II)J -/
theorem dX1_told_0 : decode cX1_told 0 = .ok (.iload_n 1, 1) := by decide +kernel
theorem dX1_told_1 : decode cX1_told 1 = .ok (.bipush 10, 2) := by decide +kernel
theorem dX1_told_3 : decode cX1_told 3 = .ok (.invokestatic 67, 3) := by decide +kernel
theorem dX1_told_6 : decode cX1_told 6 = .ok (.ifCond .eq 7, 3) := by decide +kernel
theorem dX1_told_9 : decode cX1_told 9 = .ok (.ldc2_w 70, 3) := by decide +kernel
theorem dX1_told_12 : decode cX1_told 12 = .ok (.lreturn, 1) := by decide +kernel
theorem dX1_told_13 : decode cX1_told 13 = .ok (.aload_n 0, 1) := by decide +kernel
theorem dX1_told_14 : decode cX1_told 14 = .ok (.getfield 32, 3) := by decide +kernel
theorem dX1_told_17 : decode cX1_told 17 = .ok (.iload_n 1, 1) := by decide +kernel
theorem dX1_told_18 : decode cX1_told 18 = .ok (.aaload, 1) := by decide +kernel
theorem dX1_told_19 : decode cX1_told 19 = .ok (.astore_n 3, 1) := by decide +kernel
theorem dX1_told_20 : decode cX1_told 20 = .ok (.iload_n 2, 1) := by decide +kernel
theorem dX1_told_21 : decode cX1_told 21 = .ok (.iconst 2, 1) := by decide +kernel
theorem dX1_told_22 : decode cX1_told 22 = .ok (.idiv, 1) := by decide +kernel
theorem dX1_told_23 : decode cX1_told 23 = .ok (.iconst 1, 1) := by decide +kernel
theorem dX1_told_24 : decode cX1_told 24 = .ok (.isub, 1) := by decide +kernel
theorem dX1_told_25 : decode cX1_told 25 = .ok (.istore 4, 2) := by decide +kernel
theorem dX1_told_27 : decode cX1_told 27 = .ok (.iload 4, 2) := by decide +kernel
theorem dX1_told_29 : decode cX1_told 29 = .ok (.iconst 3, 1) := by decide +kernel
theorem dX1_told_30 : decode cX1_told 30 = .ok (.invokestatic 67, 3) := by decide +kernel
theorem dX1_told_33 : decode cX1_told 33 = .ok (.ifCond .eq 12, 3) := by decide +kernel
theorem dX1_told_36 : decode cX1_told 36 = .ok (.aload_n 0, 1) := by decide +kernel
theorem dX1_told_37 : decode cX1_told 37 = .ok (.iload_n 1, 1) := by decide +kernel
theorem dX1_told_38 : decode cX1_told 38 = .ok (.aload_n 3, 1) := by decide +kernel
theorem dX1_told_39 : decode cX1_told 39 = .ok (.invokevirtual 72, 3) := by decide +kernel
theorem dX1_told_42 : decode cX1_told 42 = .ok (.goto 7, 3) := by decide +kernel
theorem dX1_told_45 : decode cX1_told 45 = .ok (.aload_n 3, 1) := by decide +kernel
theorem dX1_told_46 : decode cX1_told 46 = .ok (.iload 4, 2) := by decide +kernel
theorem dX1_told_48 : decode cX1_told 48 = .ok (.laload, 1) := by decide +kernel
theorem dX1_told_49 : decode cX1_told 49 = .ok (.lstore 5, 2) := by decide +kernel
theorem dX1_told_51 : decode cX1_told 51 = .ok (.lload 5, 2) := by decide +kernel
theorem dX1_told_53 : decode cX1_told 53 = .ok (.aload_n 3, 1) := by decide +kernel
theorem dX1_told_54 : decode cX1_told 54 = .ok (.iconst 3, 1) := by decide +kernel
theorem dX1_told_55 : decode cX1_told 55 = .ok (.laload, 1) := by decide +kernel
theorem dX1_told_56 : decode cX1_told 56 = .ok (.iload_n 2, 1) := by decide +kernel
theorem dX1_told_57 : decode cX1_told 57 = .ok (.iconst 2, 1) := by decide +kernel
theorem dX1_told_58 : decode cX1_told 58 = .ok (.irem, 1) := by decide +kernel
theorem dX1_told_59 : decode cX1_told 59 = .ok (.invokestatic 76, 3) := by decide +kernel
theorem dX1_told_62 : decode cX1_told 62 = .ok (.lreturn, 1) := by decide +kernel
def mCo_told_49  (v2 : Int32) (a3 : Nat) (vs0 : Int64) (I : hI) (J : hJ) : Option (Int64) :=
  h_g (h_in (3 : Int32) 4) <|
  (mC_lowest vs0 (J a3 (3 : Int32).toNatClampNeg) (v2 - v2 / (2 : Int32) * (2 : Int32))).bind fun q2 =>
  some q2
set_option maxHeartbeats 4000000 in
theorem sCo_told_49 (d : Nat) (hd : 2 + 1 ≤ d) (v2 : Int32) (a3 : Nat) (ha3 : kdC[a3]? = some (1, 4)) (vs0 : Int64) (I : hI) (J : hJ) (B : Bool × Bool) (q : Int64) (h : mCo_told_49 v2 a3 vs0 I J = some q) : AW hFT cX1_told 7 (some .long) RX1 kdC d [(2, .int v2), (3, .ref a3)] 49 [.long vs0] (I, J, RM B) (some (.long q)) (I, J, RM B) := by
  obtain ⟨d0, rfl, hd0⟩ := h_mono hd
  unfold mCo_told_49 at h
  refine a_lstore (lv' := [(5, .long vs0), (2, .int v2), (3, .ref a3)]) dX1_told_49 (by decide) rfl ?_
  refine a_lload dX1_told_51 rfl ?_
  refine a_aload_n dX1_told_53 rfl rfl ?_
  refine a_iconst dX1_told_54 ic_3 ?_
  obtain ⟨g1, h⟩ := h_gS h
  refine b_laload ha3 (h_inV g1) dX1_told_55 ?_
  refine a_iload_n dX1_told_56 rfl rfl ?_
  refine a_iconst dX1_told_57 ic_2 ?_
  refine a_irem dX1_told_58 (by decide) ?_
  obtain ⟨q2, cq2, h⟩ := h_bindS h
  refine a_callSN1 [] yy_X10_lowest ml_1_76 (sC_lowest _ (by omega) vs0 (J a3 (3 : Int32).toNatClampNeg) (v2 - v2 / (2 : Int32) * (2 : Int32)) I J B q2 cq2) rfl rfl (Nat.le_of_ble_eq_true rfl) dX1_told_59 ?_
  cases h
  exact a_lret dX1_told_62
def mCo_told  (v1 : Int32) (v2 : Int32) (I : hI) (J : hJ) : Option (Int64) :=
  if (mC_isOutside v1 (10 : Int32)) = 0 then
    (h_g (h_in v1 10) <|
    h_let ((v2 / (2 : Int32)) - (1 : Int32)) fun v4x1 =>
    if (mC_isOutside v4x1 (3 : Int32)) = 0 then
      (h_g (h_in v4x1 4) <|
      mCo_told_49 v2 (50 + v1.toNatClampNeg) (J (50 + v1.toNatClampNeg) v4x1.toNatClampNeg) I J)
    else
      ((mCo_tells v1 (50 + v1.toNatClampNeg) I J).bind fun q3 =>
      mCo_told_49 v2 (50 + v1.toNatClampNeg) q3 I J))
  else
    some (-1000001 : Int64)
set_option maxHeartbeats 4000000 in
theorem sCo_told (d : Nat) (hd : 2 + 1 ≤ d) (v1 : Int32) (v2 : Int32) (I : hI) (J : hJ) (B : Bool × Bool) (q : Int64) (h : mCo_told v1 v2 I J = some q) : HMet hFT yX1_told cX1_told 7 (some .long) kdC d [.ref 38, .int v1, .int v2] (I, J, RM B) (some (.long q)) (I, J, RM B) := by
  obtain ⟨d0, rfl, hd0⟩ := h_mono hd
  refine HMet.of (by decide) (Nat.le_of_ble_eq_true rfl) ?_
  show AW hFT cX1_told 7 (some .long) RX1 kdC (d0 + 1) [(0, .ref 38), (1, .int v1), (2, .int v2)] 0 [] (I, J, RM B) (some (.long q)) (I, J, RM B)
  unfold mCo_told at h
  refine a_iload_n dX1_told_0 rfl rfl ?_
  refine a_bipush dX1_told_1 bp_10 ?_
  refine a_callSN1 [] yy_X10_isOutside ml_1_67 (sC_isOutside _ (by omega) v1 (10 : Int32) I J B _ rfl) rfl rfl (Nat.le_of_ble_eq_true rfl) dX1_told_3 ?_
  refine a_if_eq (tgt := 13) dX1_told_6 (by decide) (fun c => ?_) (fun c => ?_)
  · replace h := h_iteT c h
    refine a_aload_n dX1_told_13 rfl rfl ?_
    refine b_getR hK_1 kc_38 (i := 14) rfl fl_1_32 rfl (rm_38_14 B) dX1_told_14 ?_
    refine a_iload_n dX1_told_17 rfl rfl ?_
    obtain ⟨g1, h⟩ := h_gS h
    refine b_aaload4 kc_49 (h_inV g1) (rm_JJ_49 B _ (h_in_lt (h_inV g1))) dX1_told_18 ?_
    refine a_astore_n (lv' := [(3, .ref (50 + v1.toNatClampNeg)), (0, .ref 38), (1, .int v1), (2, .int v2)]) dX1_told_19 rfl (by decide) rfl ?_
    refine a_iload_n dX1_told_20 rfl rfl ?_
    refine a_iconst dX1_told_21 ic_2 ?_
    refine a_idiv dX1_told_22 (by decide) ?_
    refine a_iconst dX1_told_23 ic_1 ?_
    refine a_isub dX1_told_24 ?_
    obtain ⟨v4x1, ev4x1, h⟩ := h_letS h
    refine a_topI ev4x1 ?_
    refine a_istore (lv' := [(4, .int v4x1), (3, .ref (50 + v1.toNatClampNeg)), (0, .ref 38), (1, .int v1), (2, .int v2)]) dX1_told_25 (by decide) rfl ?_
    refine a_iload dX1_told_27 rfl ?_
    refine a_iconst dX1_told_29 ic_3 ?_
    refine a_callSN1 [] yy_X10_isOutside ml_1_67 (sC_isOutside _ (by omega) v4x1 (3 : Int32) I J B _ rfl) rfl rfl (Nat.le_of_ble_eq_true rfl) dX1_told_30 ?_
    refine a_if_eq (tgt := 45) dX1_told_33 (by decide) (fun c => ?_) (fun c => ?_)
    · replace h := h_iteT c h
      refine a_aload_n dX1_told_45 rfl rfl ?_
      refine a_iload dX1_told_46 rfl ?_
      obtain ⟨g3, h⟩ := h_gS h
      refine b_laload (k_JJ_49 _ (h_in_lt (h_inV g1))) (h_inV g3) dX1_told_48 ?_
      refine a_sub (lv' := [(2, .int v2), (3, .ref (50 + v1.toNatClampNeg))]) [4, 1] rfl ?_
      exact sCo_told_49 (d0 + 1) (by omega) v2 (50 + v1.toNatClampNeg) (k_JJ_49 _ (h_in_lt (h_inV g1))) (J (50 + v1.toNatClampNeg) v4x1.toNatClampNeg) I J B _ h
    · replace h := h_iteF c h
      refine a_aload_n dX1_told_36 rfl rfl ?_
      refine a_iload_n dX1_told_37 rfl rfl ?_
      refine a_aload_n dX1_told_38 rfl rfl ?_
      obtain ⟨q3, cq3, h⟩ := h_bindS h
      refine a_callV1 [] yy_X1_tells ml_1_72 kc_38 rfl (sCo_tells _ (by omega) v1 (50 + v1.toNatClampNeg) (k_JJ_49 _ (h_in_lt (h_inV g1))) I J B q3 cq3) rfl rfl (Nat.le_of_ble_eq_true rfl) dX1_told_39 ?_
      refine a_goto (tgt := 49) dX1_told_42 (by decide) ?_
      refine a_sub (lv' := [(2, .int v2), (3, .ref (50 + v1.toNatClampNeg))]) [4, 1] rfl ?_
      exact sCo_told_49 (d0 + 1) (by omega) v2 (50 + v1.toNatClampNeg) (k_JJ_49 _ (h_in_lt (h_inV g1))) q3 I J B _ h
  · replace h := h_iteF c h
    refine a_ldc2_w cn_1_70 dX1_told_9 ?_
    cases h
    exact a_lret dX1_told_12
/-! CoinLoops$Reader.byteAt(I)I -/
theorem dX6_byteAt_0 : decode cX6_byteAt 0 = .ok (.iload_n 1, 1) := by decide +kernel
theorem dX6_byteAt_1 : decode cX6_byteAt 1 = .ok (.ifCond .lt 27, 3) := by decide +kernel
theorem dX6_byteAt_4 : decode cX6_byteAt 4 = .ok (.iload_n 1, 1) := by decide +kernel
theorem dX6_byteAt_5 : decode cX6_byteAt 5 = .ok (.aload_n 0, 1) := by decide +kernel
theorem dX6_byteAt_6 : decode cX6_byteAt 6 = .ok (.getfield 24, 3) := by decide +kernel
theorem dX6_byteAt_9 : decode cX6_byteAt 9 = .ok (.if_icmp .ge 19, 3) := by decide +kernel
theorem dX6_byteAt_12 : decode cX6_byteAt 12 = .ok (.iload_n 1, 1) := by decide +kernel
theorem dX6_byteAt_13 : decode cX6_byteAt 13 = .ok (.sipush 500, 3) := by decide +kernel
theorem dX6_byteAt_16 : decode cX6_byteAt 16 = .ok (.if_icmp .ge 12, 3) := by decide +kernel
theorem dX6_byteAt_19 : decode cX6_byteAt 19 = .ok (.aload_n 0, 1) := by decide +kernel
theorem dX6_byteAt_20 : decode cX6_byteAt 20 = .ok (.getfield 9, 3) := by decide +kernel
theorem dX6_byteAt_23 : decode cX6_byteAt 23 = .ok (.iload_n 1, 1) := by decide +kernel
theorem dX6_byteAt_24 : decode cX6_byteAt 24 = .ok (.iaload, 1) := by decide +kernel
theorem dX6_byteAt_25 : decode cX6_byteAt 25 = .ok (.goto 4, 3) := by decide +kernel
theorem dX6_byteAt_28 : decode cX6_byteAt 28 = .ok (.iconst 0, 1) := by decide +kernel
theorem dX6_byteAt_29 : decode cX6_byteAt 29 = .ok (.ireturn, 1) := by decide +kernel
def mRd_byteAt  (v1 : Int32) (I : hI) : Option (Int32) :=
  if v1 < 0 then
    some (0 : Int32)
  else
    (if (I 1 1) ≤ v1 then
      some (0 : Int32)
    else
      (if (500 : Int32) ≤ v1 then
        some (0 : Int32)
      else
        (h_g (h_in v1 500) <|
        some (I 2 v1.toNatClampNeg))))
set_option maxHeartbeats 4000000 in
theorem sRd_byteAt (d : Nat) (hd : 0 ≤ d) (v1 : Int32) (I : hI) (J : hJ) (B : Bool × Bool) (q : Int32) (h : mRd_byteAt v1 I = some q) : HMet hFT yX6_byteAt cX6_byteAt 2 (some .int) kdC d [.ref 1, .int v1] (I, J, RM B) (some (.int q)) (I, J, RM B) := by
  refine HMet.of (by decide) (Nat.le_of_ble_eq_true rfl) ?_
  show AW hFT cX6_byteAt 2 (some .int) RX6 kdC d [(0, .ref 1), (1, .int v1)] 0 [] (I, J, RM B) (some (.int q)) (I, J, RM B)
  unfold mRd_byteAt at h
  refine a_iload_n dX6_byteAt_0 rfl rfl ?_
  refine a_if_lt (tgt := 28) dX6_byteAt_1 (by decide) (fun c => ?_) (fun c => ?_)
  · replace h := h_iteT c h
    refine a_iconst dX6_byteAt_28 ic_0 ?_
    cases h
    exact a_iret dX6_byteAt_29
  · replace h := h_iteF c h
    refine a_iload_n dX6_byteAt_4 rfl rfl ?_
    refine a_aload_n dX6_byteAt_5 rfl rfl ?_
    refine b_getI hK_6 kc_1 (i := 1) rfl fl_6_24 rfl dX6_byteAt_6 ?_
    refine a_icmp_ge (tgt := 28) dX6_byteAt_9 (by decide) (fun c => ?_) (fun c => ?_)
    · replace h := h_iteT c h
      refine a_iconst dX6_byteAt_28 ic_0 ?_
      cases h
      exact a_iret dX6_byteAt_29
    · replace h := h_iteF c h
      refine a_iload_n dX6_byteAt_12 rfl rfl ?_
      refine a_sipush dX6_byteAt_13 sq_500 ?_
      refine a_icmp_ge (tgt := 28) dX6_byteAt_16 (by decide) (fun c => ?_) (fun c => ?_)
      · replace h := h_iteT c h
        refine a_iconst dX6_byteAt_28 ic_0 ?_
        cases h
        exact a_iret dX6_byteAt_29
      · replace h := h_iteF c h
        refine a_aload_n dX6_byteAt_19 rfl rfl ?_
        refine b_getR hK_6 kc_1 (i := 0) rfl fl_6_9 rfl (rm_1_0 B) dX6_byteAt_20 ?_
        refine a_iload_n dX6_byteAt_23 rfl rfl ?_
        obtain ⟨g1, h⟩ := h_gS h
        refine b_iaload kc_2 (h_inV g1) dX6_byteAt_24 ?_
        refine a_goto (tgt := 29) dX6_byteAt_25 (by decide) ?_
        cases h
        exact a_iret dX6_byteAt_29
/-! CoinLoops$Reader.isLetter(I)Z -/
theorem dX6_isLetter_0 : decode cX6_isLetter 0 = .ok (.iload_n 0, 1) := by decide +kernel
theorem dX6_isLetter_1 : decode cX6_isLetter 1 = .ok (.bipush 97, 2) := by decide +kernel
theorem dX6_isLetter_3 : decode cX6_isLetter 3 = .ok (.if_icmp .lt 13, 3) := by decide +kernel
theorem dX6_isLetter_6 : decode cX6_isLetter 6 = .ok (.iload_n 0, 1) := by decide +kernel
theorem dX6_isLetter_7 : decode cX6_isLetter 7 = .ok (.bipush 122, 2) := by decide +kernel
theorem dX6_isLetter_9 : decode cX6_isLetter 9 = .ok (.if_icmp .gt 7, 3) := by decide +kernel
theorem dX6_isLetter_12 : decode cX6_isLetter 12 = .ok (.iconst 1, 1) := by decide +kernel
theorem dX6_isLetter_13 : decode cX6_isLetter 13 = .ok (.goto 4, 3) := by decide +kernel
theorem dX6_isLetter_16 : decode cX6_isLetter 16 = .ok (.iconst 0, 1) := by decide +kernel
theorem dX6_isLetter_17 : decode cX6_isLetter 17 = .ok (.ireturn, 1) := by decide +kernel
def mRd_isLetter  (v0 : Int32)  : Int32 :=
  if v0 < (97 : Int32) then
    (0 : Int32)
  else
    (if (122 : Int32) < v0 then
      (0 : Int32)
    else
      (1 : Int32))
set_option maxHeartbeats 4000000 in
theorem sRd_isLetter (d : Nat) (hd : 0 ≤ d) (v0 : Int32) (I : hI) (J : hJ) (B : Bool × Bool) (q : Int32) (h : mRd_isLetter v0 = q) : HMet hFT yX6_isLetter cX6_isLetter 1 (some .boolean) kdC d [.int v0] (I, J, RM B) (some (.int q)) (I, J, RM B) := by
  refine HMet.of (by decide) (Nat.le_of_ble_eq_true rfl) ?_
  show AW hFT cX6_isLetter 1 (some .boolean) RX6 kdC d [(0, .int v0)] 0 [] (I, J, RM B) (some (.int q)) (I, J, RM B)
  unfold mRd_isLetter at h
  refine a_iload_n dX6_isLetter_0 rfl rfl ?_
  refine a_bipush dX6_isLetter_1 bp_97 ?_
  refine a_icmp_lt (tgt := 16) dX6_isLetter_3 (by decide) (fun c => ?_) (fun c => ?_)
  · replace h := h_iteT c h
    refine a_iconst dX6_isLetter_16 ic_0 ?_
    cases h
    exact a_zret (h_Z0.1) dX6_isLetter_17
  · replace h := h_iteF c h
    refine a_iload_n dX6_isLetter_6 rfl rfl ?_
    refine a_bipush dX6_isLetter_7 bp_122 ?_
    refine a_icmp_gt (tgt := 16) dX6_isLetter_9 (by decide) (fun c => ?_) (fun c => ?_)
    · replace h := h_iteT c h
      refine a_iconst dX6_isLetter_16 ic_0 ?_
      cases h
      exact a_zret (h_Z0.1) dX6_isLetter_17
    · replace h := h_iteF c h
      refine a_iconst dX6_isLetter_12 ic_1 ?_
      refine a_goto (tgt := 17) dX6_isLetter_13 (by decide) ?_
      cases h
      exact a_zret (h_Z1.1) dX6_isLetter_17
/-! CoinLoops$Reader.spells(IILjava/lang/String;)Z -/
theorem dX6_spells_0 : decode cX6_spells 0 = .ok (.iload_n 2, 1) := by decide +kernel
theorem dX6_spells_1 : decode cX6_spells 1 = .ok (.iload_n 1, 1) := by decide +kernel
theorem dX6_spells_2 : decode cX6_spells 2 = .ok (.isub, 1) := by decide +kernel
theorem dX6_spells_3 : decode cX6_spells 3 = .ok (.aload_n 3, 1) := by decide +kernel
theorem dX6_spells_4 : decode cX6_spells 4 = .ok (.invokevirtual 126, 3) := by decide +kernel
theorem dX6_spells_7 : decode cX6_spells 7 = .ok (.if_icmp .eq 5, 3) := by decide +kernel
theorem dX6_spells_10 : decode cX6_spells 10 = .ok (.iconst 0, 1) := by decide +kernel
theorem dX6_spells_11 : decode cX6_spells 11 = .ok (.ireturn, 1) := by decide +kernel
theorem dX6_spells_12 : decode cX6_spells 12 = .ok (.iconst 0, 1) := by decide +kernel
theorem dX6_spells_13 : decode cX6_spells 13 = .ok (.istore 4, 2) := by decide +kernel
theorem dX6_spells_15 : decode cX6_spells 15 = .ok (.iload 4, 2) := by decide +kernel
theorem dX6_spells_17 : decode cX6_spells 17 = .ok (.aload_n 3, 1) := by decide +kernel
theorem dX6_spells_18 : decode cX6_spells 18 = .ok (.invokevirtual 126, 3) := by decide +kernel
theorem dX6_spells_21 : decode cX6_spells 21 = .ok (.if_icmp .ge 28, 3) := by decide +kernel
theorem dX6_spells_24 : decode cX6_spells 24 = .ok (.aload_n 0, 1) := by decide +kernel
theorem dX6_spells_25 : decode cX6_spells 25 = .ok (.iload_n 1, 1) := by decide +kernel
theorem dX6_spells_26 : decode cX6_spells 26 = .ok (.iload 4, 2) := by decide +kernel
theorem dX6_spells_28 : decode cX6_spells 28 = .ok (.iadd, 1) := by decide +kernel
theorem dX6_spells_29 : decode cX6_spells 29 = .ok (.invokevirtual 35, 3) := by decide +kernel
theorem dX6_spells_32 : decode cX6_spells 32 = .ok (.aload_n 3, 1) := by decide +kernel
theorem dX6_spells_33 : decode cX6_spells 33 = .ok (.iload 4, 2) := by decide +kernel
theorem dX6_spells_35 : decode cX6_spells 35 = .ok (.invokevirtual 132, 3) := by decide +kernel
theorem dX6_spells_38 : decode cX6_spells 38 = .ok (.if_icmp .eq 5, 3) := by decide +kernel
theorem dX6_spells_41 : decode cX6_spells 41 = .ok (.iconst 0, 1) := by decide +kernel
theorem dX6_spells_42 : decode cX6_spells 42 = .ok (.ireturn, 1) := by decide +kernel
theorem dX6_spells_43 : decode cX6_spells 43 = .ok (.iinc 4 1, 3) := by decide +kernel
theorem dX6_spells_46 : decode cX6_spells 46 = .ok (.goto (-31), 3) := by decide +kernel
theorem dX6_spells_49 : decode cX6_spells 49 = .ok (.iconst 1, 1) := by decide +kernel
theorem dX6_spells_50 : decode cX6_spells 50 = .ok (.ireturn, 1) := by decide +kernel
def mRd_spells_B15 (k15 : Int32 → Nat → Int32 → hI → Option (Int32)) (v1 : Int32) (t3 : Nat) (v4 : Int32) (I : hI) : Option (Int32) :=
  if (h_sl t3) ≤ v4 then
    some (1 : Int32)
  else
    ((mRd_byteAt (v1 + v4) I).bind fun q1 =>
    h_g (h_in v4 (h_len.getD t3 0)) <|
    if q1 = (h_sc t3 v4) then
      k15 v1 t3 (v4 + (1 : Int32)) I
    else
      some (0 : Int32))
set_option maxHeartbeats 4000000 in
theorem sRd_spells_B15 (d : Nat) (hd : 6 + 1 ≤ d) (k15 : Int32 → Nat → Int32 → hI → Option (Int32)) (hk15 : ∀ (v1 : Int32) (t3 : Nat) (ht3 : t3 < 11) (v4 : Int32) (I : hI) (J : hJ) (B : Bool × Bool) (q : Int32), k15 v1 t3 v4 I = some q → AW hFT cX6_spells 5 (some .boolean) RX6 kdC d [(0, .ref 1), (1, .int v1), (3, .ref (201 + t3)), (4, .int v4)] 15 [] (I, J, RM B) (some (.int q)) (I, J, RM B)) (v1 : Int32) (t3 : Nat) (ht3 : t3 < 11) (v4 : Int32) (I : hI) (J : hJ) (B : Bool × Bool) (q : Int32) (h : mRd_spells_B15 k15 v1 t3 v4 I = some q) : AW hFT cX6_spells 5 (some .boolean) RX6 kdC d [(0, .ref 1), (1, .int v1), (3, .ref (201 + t3)), (4, .int v4)] 15 [] (I, J, RM B) (some (.int q)) (I, J, RM B) := by
  obtain ⟨d0, rfl, hd0⟩ := h_mono hd
  unfold mRd_spells_B15 at h
  refine a_iload dX6_spells_15 rfl ?_
  refine a_aload_n dX6_spells_17 rfl rfl ?_
  refine a_slen (i := t3) ht3 kdC_len ml_6_126 (Nat.le_of_ble_eq_true rfl) (by omega) dX6_spells_18 ?_
  refine a_icmp_ge (tgt := 49) dX6_spells_21 (by decide) (fun c => ?_) (fun c => ?_)
  · replace h := h_iteT c h
    refine a_iconst dX6_spells_49 ic_1 ?_
    cases h
    exact a_zret (h_Z1.1) dX6_spells_50
  · replace h := h_iteF c h
    refine a_aload_n dX6_spells_24 rfl rfl ?_
    refine a_iload_n dX6_spells_25 rfl rfl ?_
    refine a_iload dX6_spells_26 rfl ?_
    refine a_iadd dX6_spells_28 ?_
    obtain ⟨q1, cq1, h⟩ := h_bindS h
    refine a_callV1 [] yy_X6_byteAt ml_6_35 kc_1 rfl (sRd_byteAt _ (by omega) (v1 + v4) I J B q1 cq1) rfl rfl (Nat.le_of_ble_eq_true rfl) dX6_spells_29 ?_
    refine a_aload_n dX6_spells_32 rfl rfl ?_
    refine a_iload dX6_spells_33 rfl ?_
    obtain ⟨g2, h⟩ := h_gS h
    refine a_schar (i := t3) ht3 kdC_len ml_6_132 (h_inV g2) (Nat.le_of_ble_eq_true rfl) (by omega) dX6_spells_35 ?_
    refine a_icmp_eq (tgt := 43) dX6_spells_38 (by decide) (fun c => ?_) (fun c => ?_)
    · replace h := h_iteT c h
      refine b_iinc (lv' := [(4, .int (v4 + (1 : Int32))), (0, .ref 1), (1, .int v1), (3, .ref (201 + t3))]) dX6_spells_43 rfl ic_1 (by decide) rfl ?_
      refine a_goto (tgt := 15) dX6_spells_46 (by decide) ?_
      refine a_sub (lv' := [(0, .ref 1), (1, .int v1), (3, .ref (201 + t3)), (4, .int (v4 + (1 : Int32)))]) [1, 2, 3, 0] rfl ?_
      exact hk15 v1 t3 ht3 (v4 + (1 : Int32)) I J B _ h
    · replace h := h_iteF c h
      refine a_iconst dX6_spells_41 ic_0 ?_
      cases h
      exact a_zret (h_Z0.1) dX6_spells_42
def mRd_spells_L15  : Nat → Int32 → Nat → Int32 → hI → Option (Int32)
  | 0 => fun _ _ _ _ => none
  | n + 1 => mRd_spells_B15 (mRd_spells_L15 n)
theorem sRd_spells_L15 (d : Nat) (hd : 6 + 1 ≤ d) : ∀ (n : Nat) (v1 : Int32) (t3 : Nat) (ht3 : t3 < 11) (v4 : Int32) (I : hI) (J : hJ) (B : Bool × Bool) (q : Int32) (h : mRd_spells_L15 n v1 t3 v4 I = some q), AW hFT cX6_spells 5 (some .boolean) RX6 kdC d [(0, .ref 1), (1, .int v1), (3, .ref (201 + t3)), (4, .int v4)] 15 [] (I, J, RM B) (some (.int q)) (I, J, RM B)
  | 0, _, _, _, _, _, _, _, q, h => by cases h
  | n + 1, v1, t3, ht3, v4, I, J, B, q, h => sRd_spells_B15 d hd (mRd_spells_L15 n) (sRd_spells_L15 d hd n) v1 t3 ht3 v4 I J B q h
def mRd_spells  (v1 : Int32) (v2 : Int32) (t3 : Nat) (I : hI) : Option (Int32) :=
  if (v2 - v1) = (h_sl t3) then
    mRd_spells_L15 hF v1 t3 (0 : Int32) I
  else
    some (0 : Int32)
set_option maxHeartbeats 4000000 in
theorem sRd_spells (d : Nat) (hd : 6 + 1 ≤ d) (v1 : Int32) (v2 : Int32) (t3 : Nat) (ht3 : t3 < 11) (I : hI) (J : hJ) (B : Bool × Bool) (q : Int32) (h : mRd_spells v1 v2 t3 I = some q) : HMet hFT yX6_spells cX6_spells 5 (some .boolean) kdC d [.ref 1, .int v1, .int v2, .ref (201 + t3)] (I, J, RM B) (some (.int q)) (I, J, RM B) := by
  obtain ⟨d0, rfl, hd0⟩ := h_mono hd
  refine HMet.of (by decide) (Nat.le_of_ble_eq_true rfl) ?_
  show AW hFT cX6_spells 5 (some .boolean) RX6 kdC (d0 + 1) [(0, .ref 1), (1, .int v1), (2, .int v2), (3, .ref (201 + t3))] 0 [] (I, J, RM B) (some (.int q)) (I, J, RM B)
  unfold mRd_spells at h
  refine a_iload_n dX6_spells_0 rfl rfl ?_
  refine a_iload_n dX6_spells_1 rfl rfl ?_
  refine a_isub dX6_spells_2 ?_
  refine a_aload_n dX6_spells_3 rfl rfl ?_
  refine a_slen (i := t3) ht3 kdC_len ml_6_126 (Nat.le_of_ble_eq_true rfl) (by omega) dX6_spells_4 ?_
  refine a_icmp_eq (tgt := 12) dX6_spells_7 (by decide) (fun c => ?_) (fun c => ?_)
  · replace h := h_iteT c h
    refine a_iconst dX6_spells_12 ic_0 ?_
    refine a_istore (lv' := [(4, .int (0 : Int32)), (0, .ref 1), (1, .int v1), (2, .int v2), (3, .ref (201 + t3))]) dX6_spells_13 (by decide) rfl ?_
    refine a_sub (lv' := [(0, .ref 1), (1, .int v1), (3, .ref (201 + t3)), (4, .int (0 : Int32))]) [1, 2, 4, 0] rfl ?_
    exact sRd_spells_L15 (d0 + 1) (by omega) hF v1 t3 ht3 (0 : Int32) I J B _ h
  · replace h := h_iteF c h
    refine a_iconst dX6_spells_10 ic_0 ?_
    cases h
    exact a_zret (h_Z0.1) dX6_spells_11
/-! CoinLoops$Reader.wordKind(II)I -/
theorem dX6_wordKind_0 : decode cX6_wordKind 0 = .ok (.aload_n 0, 1) := by decide +kernel
theorem dX6_wordKind_1 : decode cX6_wordKind 1 = .ok (.iload_n 1, 1) := by decide +kernel
theorem dX6_wordKind_2 : decode cX6_wordKind 2 = .ok (.iload_n 2, 1) := by decide +kernel
theorem dX6_wordKind_3 : decode cX6_wordKind 3 = .ok (.ldc 100, 2) := by decide +kernel
theorem dX6_wordKind_5 : decode cX6_wordKind 5 = .ok (.invokevirtual 102, 3) := by decide +kernel
theorem dX6_wordKind_8 : decode cX6_wordKind 8 = .ok (.ifCond .eq 7, 3) := by decide +kernel
theorem dX6_wordKind_11 : decode cX6_wordKind 11 = .ok (.sipush 258, 3) := by decide +kernel
theorem dX6_wordKind_14 : decode cX6_wordKind 14 = .ok (.ireturn, 1) := by decide +kernel
theorem dX6_wordKind_15 : decode cX6_wordKind 15 = .ok (.aload_n 0, 1) := by decide +kernel
theorem dX6_wordKind_16 : decode cX6_wordKind 16 = .ok (.iload_n 1, 1) := by decide +kernel
theorem dX6_wordKind_17 : decode cX6_wordKind 17 = .ok (.iload_n 2, 1) := by decide +kernel
theorem dX6_wordKind_18 : decode cX6_wordKind 18 = .ok (.ldc 106, 2) := by decide +kernel
theorem dX6_wordKind_20 : decode cX6_wordKind 20 = .ok (.invokevirtual 102, 3) := by decide +kernel
theorem dX6_wordKind_23 : decode cX6_wordKind 23 = .ok (.ifCond .eq 7, 3) := by decide +kernel
theorem dX6_wordKind_26 : decode cX6_wordKind 26 = .ok (.sipush 259, 3) := by decide +kernel
theorem dX6_wordKind_29 : decode cX6_wordKind 29 = .ok (.ireturn, 1) := by decide +kernel
theorem dX6_wordKind_30 : decode cX6_wordKind 30 = .ok (.aload_n 0, 1) := by decide +kernel
theorem dX6_wordKind_31 : decode cX6_wordKind 31 = .ok (.iload_n 1, 1) := by decide +kernel
theorem dX6_wordKind_32 : decode cX6_wordKind 32 = .ok (.iload_n 2, 1) := by decide +kernel
theorem dX6_wordKind_33 : decode cX6_wordKind 33 = .ok (.ldc 108, 2) := by decide +kernel
theorem dX6_wordKind_35 : decode cX6_wordKind 35 = .ok (.invokevirtual 102, 3) := by decide +kernel
theorem dX6_wordKind_38 : decode cX6_wordKind 38 = .ok (.ifCond .eq 7, 3) := by decide +kernel
theorem dX6_wordKind_41 : decode cX6_wordKind 41 = .ok (.sipush 260, 3) := by decide +kernel
theorem dX6_wordKind_44 : decode cX6_wordKind 44 = .ok (.ireturn, 1) := by decide +kernel
theorem dX6_wordKind_45 : decode cX6_wordKind 45 = .ok (.aload_n 0, 1) := by decide +kernel
theorem dX6_wordKind_46 : decode cX6_wordKind 46 = .ok (.iload_n 1, 1) := by decide +kernel
theorem dX6_wordKind_47 : decode cX6_wordKind 47 = .ok (.iload_n 2, 1) := by decide +kernel
theorem dX6_wordKind_48 : decode cX6_wordKind 48 = .ok (.ldc 110, 2) := by decide +kernel
theorem dX6_wordKind_50 : decode cX6_wordKind 50 = .ok (.invokevirtual 102, 3) := by decide +kernel
theorem dX6_wordKind_53 : decode cX6_wordKind 53 = .ok (.ifCond .eq 7, 3) := by decide +kernel
theorem dX6_wordKind_56 : decode cX6_wordKind 56 = .ok (.sipush 261, 3) := by decide +kernel
theorem dX6_wordKind_59 : decode cX6_wordKind 59 = .ok (.ireturn, 1) := by decide +kernel
theorem dX6_wordKind_60 : decode cX6_wordKind 60 = .ok (.aload_n 0, 1) := by decide +kernel
theorem dX6_wordKind_61 : decode cX6_wordKind 61 = .ok (.iload_n 1, 1) := by decide +kernel
theorem dX6_wordKind_62 : decode cX6_wordKind 62 = .ok (.iload_n 2, 1) := by decide +kernel
theorem dX6_wordKind_63 : decode cX6_wordKind 63 = .ok (.ldc 112, 2) := by decide +kernel
theorem dX6_wordKind_65 : decode cX6_wordKind 65 = .ok (.invokevirtual 102, 3) := by decide +kernel
theorem dX6_wordKind_68 : decode cX6_wordKind 68 = .ok (.ifCond .eq 7, 3) := by decide +kernel
theorem dX6_wordKind_71 : decode cX6_wordKind 71 = .ok (.sipush 262, 3) := by decide +kernel
theorem dX6_wordKind_74 : decode cX6_wordKind 74 = .ok (.ireturn, 1) := by decide +kernel
theorem dX6_wordKind_75 : decode cX6_wordKind 75 = .ok (.aload_n 0, 1) := by decide +kernel
theorem dX6_wordKind_76 : decode cX6_wordKind 76 = .ok (.iload_n 1, 1) := by decide +kernel
theorem dX6_wordKind_77 : decode cX6_wordKind 77 = .ok (.iload_n 2, 1) := by decide +kernel
theorem dX6_wordKind_78 : decode cX6_wordKind 78 = .ok (.ldc 114, 2) := by decide +kernel
theorem dX6_wordKind_80 : decode cX6_wordKind 80 = .ok (.invokevirtual 102, 3) := by decide +kernel
theorem dX6_wordKind_83 : decode cX6_wordKind 83 = .ok (.ifCond .eq 7, 3) := by decide +kernel
theorem dX6_wordKind_86 : decode cX6_wordKind 86 = .ok (.sipush 263, 3) := by decide +kernel
theorem dX6_wordKind_89 : decode cX6_wordKind 89 = .ok (.ireturn, 1) := by decide +kernel
theorem dX6_wordKind_90 : decode cX6_wordKind 90 = .ok (.aload_n 0, 1) := by decide +kernel
theorem dX6_wordKind_91 : decode cX6_wordKind 91 = .ok (.iload_n 1, 1) := by decide +kernel
theorem dX6_wordKind_92 : decode cX6_wordKind 92 = .ok (.iload_n 2, 1) := by decide +kernel
theorem dX6_wordKind_93 : decode cX6_wordKind 93 = .ok (.ldc 116, 2) := by decide +kernel
theorem dX6_wordKind_95 : decode cX6_wordKind 95 = .ok (.invokevirtual 102, 3) := by decide +kernel
theorem dX6_wordKind_98 : decode cX6_wordKind 98 = .ok (.ifCond .eq 7, 3) := by decide +kernel
theorem dX6_wordKind_101 : decode cX6_wordKind 101 = .ok (.sipush 264, 3) := by decide +kernel
theorem dX6_wordKind_104 : decode cX6_wordKind 104 = .ok (.ireturn, 1) := by decide +kernel
theorem dX6_wordKind_105 : decode cX6_wordKind 105 = .ok (.aload_n 0, 1) := by decide +kernel
theorem dX6_wordKind_106 : decode cX6_wordKind 106 = .ok (.iload_n 1, 1) := by decide +kernel
theorem dX6_wordKind_107 : decode cX6_wordKind 107 = .ok (.iload_n 2, 1) := by decide +kernel
theorem dX6_wordKind_108 : decode cX6_wordKind 108 = .ok (.ldc 118, 2) := by decide +kernel
theorem dX6_wordKind_110 : decode cX6_wordKind 110 = .ok (.invokevirtual 102, 3) := by decide +kernel
theorem dX6_wordKind_113 : decode cX6_wordKind 113 = .ok (.ifCond .eq 7, 3) := by decide +kernel
theorem dX6_wordKind_116 : decode cX6_wordKind 116 = .ok (.sipush 265, 3) := by decide +kernel
theorem dX6_wordKind_119 : decode cX6_wordKind 119 = .ok (.ireturn, 1) := by decide +kernel
theorem dX6_wordKind_120 : decode cX6_wordKind 120 = .ok (.aload_n 0, 1) := by decide +kernel
theorem dX6_wordKind_121 : decode cX6_wordKind 121 = .ok (.iload_n 1, 1) := by decide +kernel
theorem dX6_wordKind_122 : decode cX6_wordKind 122 = .ok (.iload_n 2, 1) := by decide +kernel
theorem dX6_wordKind_123 : decode cX6_wordKind 123 = .ok (.ldc 120, 2) := by decide +kernel
theorem dX6_wordKind_125 : decode cX6_wordKind 125 = .ok (.invokevirtual 102, 3) := by decide +kernel
theorem dX6_wordKind_128 : decode cX6_wordKind 128 = .ok (.ifCond .eq 7, 3) := by decide +kernel
theorem dX6_wordKind_131 : decode cX6_wordKind 131 = .ok (.sipush 266, 3) := by decide +kernel
theorem dX6_wordKind_134 : decode cX6_wordKind 134 = .ok (.ireturn, 1) := by decide +kernel
theorem dX6_wordKind_135 : decode cX6_wordKind 135 = .ok (.aload_n 0, 1) := by decide +kernel
theorem dX6_wordKind_136 : decode cX6_wordKind 136 = .ok (.iload_n 1, 1) := by decide +kernel
theorem dX6_wordKind_137 : decode cX6_wordKind 137 = .ok (.iload_n 2, 1) := by decide +kernel
theorem dX6_wordKind_138 : decode cX6_wordKind 138 = .ok (.ldc 122, 2) := by decide +kernel
theorem dX6_wordKind_140 : decode cX6_wordKind 140 = .ok (.invokevirtual 102, 3) := by decide +kernel
theorem dX6_wordKind_143 : decode cX6_wordKind 143 = .ok (.ifCond .eq 7, 3) := by decide +kernel
theorem dX6_wordKind_146 : decode cX6_wordKind 146 = .ok (.sipush 267, 3) := by decide +kernel
theorem dX6_wordKind_149 : decode cX6_wordKind 149 = .ok (.ireturn, 1) := by decide +kernel
theorem dX6_wordKind_150 : decode cX6_wordKind 150 = .ok (.aload_n 0, 1) := by decide +kernel
theorem dX6_wordKind_151 : decode cX6_wordKind 151 = .ok (.iload_n 1, 1) := by decide +kernel
theorem dX6_wordKind_152 : decode cX6_wordKind 152 = .ok (.iload_n 2, 1) := by decide +kernel
theorem dX6_wordKind_153 : decode cX6_wordKind 153 = .ok (.ldc 124, 2) := by decide +kernel
theorem dX6_wordKind_155 : decode cX6_wordKind 155 = .ok (.invokevirtual 102, 3) := by decide +kernel
theorem dX6_wordKind_158 : decode cX6_wordKind 158 = .ok (.ifCond .eq 9, 3) := by decide +kernel
theorem dX6_wordKind_161 : decode cX6_wordKind 161 = .ok (.sipush 268, 3) := by decide +kernel
theorem dX6_wordKind_164 : decode cX6_wordKind 164 = .ok (.goto 6, 3) := by decide +kernel
theorem dX6_wordKind_167 : decode cX6_wordKind 167 = .ok (.sipush 257, 3) := by decide +kernel
theorem dX6_wordKind_170 : decode cX6_wordKind 170 = .ok (.ireturn, 1) := by decide +kernel
def mRd_wordKind  (v1 : Int32) (v2 : Int32) (I : hI) : Option (Int32) :=
  (mRd_spells v1 v2 0 I).bind fun q1 =>
  if q1 = 0 then
    ((mRd_spells v1 v2 1 I).bind fun q2 =>
    if q2 = 0 then
      ((mRd_spells v1 v2 2 I).bind fun q3 =>
      if q3 = 0 then
        ((mRd_spells v1 v2 3 I).bind fun q4 =>
        if q4 = 0 then
          ((mRd_spells v1 v2 4 I).bind fun q5 =>
          if q5 = 0 then
            ((mRd_spells v1 v2 5 I).bind fun q6 =>
            if q6 = 0 then
              ((mRd_spells v1 v2 6 I).bind fun q7 =>
              if q7 = 0 then
                ((mRd_spells v1 v2 7 I).bind fun q8 =>
                if q8 = 0 then
                  ((mRd_spells v1 v2 8 I).bind fun q9 =>
                  if q9 = 0 then
                    ((mRd_spells v1 v2 9 I).bind fun q10 =>
                    if q10 = 0 then
                      ((mRd_spells v1 v2 10 I).bind fun q11 =>
                      if q11 = 0 then
                        some (257 : Int32)
                      else
                        some (268 : Int32))
                    else
                      some (267 : Int32))
                  else
                    some (266 : Int32))
                else
                  some (265 : Int32))
              else
                some (264 : Int32))
            else
              some (263 : Int32))
          else
            some (262 : Int32))
        else
          some (261 : Int32))
      else
        some (260 : Int32))
    else
      some (259 : Int32))
  else
    some (258 : Int32)
set_option maxHeartbeats 4000000 in
theorem sRd_wordKind (d : Nat) (hd : 7 + 1 ≤ d) (v1 : Int32) (v2 : Int32) (I : hI) (J : hJ) (B : Bool × Bool) (q : Int32) (h : mRd_wordKind v1 v2 I = some q) : HMet hFT yX6_wordKind cX6_wordKind 3 (some .int) kdC d [.ref 1, .int v1, .int v2] (I, J, RM B) (some (.int q)) (I, J, RM B) := by
  obtain ⟨d0, rfl, hd0⟩ := h_mono hd
  refine HMet.of (by decide) (Nat.le_of_ble_eq_true rfl) ?_
  show AW hFT cX6_wordKind 3 (some .int) RX6 kdC (d0 + 1) [(0, .ref 1), (1, .int v1), (2, .int v2)] 0 [] (I, J, RM B) (some (.int q)) (I, J, RM B)
  unfold mRd_wordKind at h
  refine a_aload_n dX6_wordKind_0 rfl rfl ?_
  refine a_iload_n dX6_wordKind_1 rfl rfl ?_
  refine a_iload_n dX6_wordKind_2 rfl rfl ?_
  refine a_ldcS (i := 0) lit_6_100 kdC_len dX6_wordKind_3 ?_
  obtain ⟨q1, cq1, h⟩ := h_bindS h
  refine a_callV1 [] yy_X6_spells ml_6_102 kc_1 rfl (sRd_spells _ (by omega) v1 v2 0 (by decide) I J B q1 cq1) rfl rfl (Nat.le_of_ble_eq_true rfl) dX6_wordKind_5 ?_
  refine a_if_eq (tgt := 15) dX6_wordKind_8 (by decide) (fun c => ?_) (fun c => ?_)
  · replace h := h_iteT c h
    refine a_aload_n dX6_wordKind_15 rfl rfl ?_
    refine a_iload_n dX6_wordKind_16 rfl rfl ?_
    refine a_iload_n dX6_wordKind_17 rfl rfl ?_
    refine a_ldcS (i := 1) lit_6_106 kdC_len dX6_wordKind_18 ?_
    obtain ⟨q2, cq2, h⟩ := h_bindS h
    refine a_callV1 [] yy_X6_spells ml_6_102 kc_1 rfl (sRd_spells _ (by omega) v1 v2 1 (by decide) I J B q2 cq2) rfl rfl (Nat.le_of_ble_eq_true rfl) dX6_wordKind_20 ?_
    refine a_if_eq (tgt := 30) dX6_wordKind_23 (by decide) (fun c => ?_) (fun c => ?_)
    · replace h := h_iteT c h
      refine a_aload_n dX6_wordKind_30 rfl rfl ?_
      refine a_iload_n dX6_wordKind_31 rfl rfl ?_
      refine a_iload_n dX6_wordKind_32 rfl rfl ?_
      refine a_ldcS (i := 2) lit_6_108 kdC_len dX6_wordKind_33 ?_
      obtain ⟨q3, cq3, h⟩ := h_bindS h
      refine a_callV1 [] yy_X6_spells ml_6_102 kc_1 rfl (sRd_spells _ (by omega) v1 v2 2 (by decide) I J B q3 cq3) rfl rfl (Nat.le_of_ble_eq_true rfl) dX6_wordKind_35 ?_
      refine a_if_eq (tgt := 45) dX6_wordKind_38 (by decide) (fun c => ?_) (fun c => ?_)
      · replace h := h_iteT c h
        refine a_aload_n dX6_wordKind_45 rfl rfl ?_
        refine a_iload_n dX6_wordKind_46 rfl rfl ?_
        refine a_iload_n dX6_wordKind_47 rfl rfl ?_
        refine a_ldcS (i := 3) lit_6_110 kdC_len dX6_wordKind_48 ?_
        obtain ⟨q4, cq4, h⟩ := h_bindS h
        refine a_callV1 [] yy_X6_spells ml_6_102 kc_1 rfl (sRd_spells _ (by omega) v1 v2 3 (by decide) I J B q4 cq4) rfl rfl (Nat.le_of_ble_eq_true rfl) dX6_wordKind_50 ?_
        refine a_if_eq (tgt := 60) dX6_wordKind_53 (by decide) (fun c => ?_) (fun c => ?_)
        · replace h := h_iteT c h
          refine a_aload_n dX6_wordKind_60 rfl rfl ?_
          refine a_iload_n dX6_wordKind_61 rfl rfl ?_
          refine a_iload_n dX6_wordKind_62 rfl rfl ?_
          refine a_ldcS (i := 4) lit_6_112 kdC_len dX6_wordKind_63 ?_
          obtain ⟨q5, cq5, h⟩ := h_bindS h
          refine a_callV1 [] yy_X6_spells ml_6_102 kc_1 rfl (sRd_spells _ (by omega) v1 v2 4 (by decide) I J B q5 cq5) rfl rfl (Nat.le_of_ble_eq_true rfl) dX6_wordKind_65 ?_
          refine a_if_eq (tgt := 75) dX6_wordKind_68 (by decide) (fun c => ?_) (fun c => ?_)
          · replace h := h_iteT c h
            refine a_aload_n dX6_wordKind_75 rfl rfl ?_
            refine a_iload_n dX6_wordKind_76 rfl rfl ?_
            refine a_iload_n dX6_wordKind_77 rfl rfl ?_
            refine a_ldcS (i := 5) lit_6_114 kdC_len dX6_wordKind_78 ?_
            obtain ⟨q6, cq6, h⟩ := h_bindS h
            refine a_callV1 [] yy_X6_spells ml_6_102 kc_1 rfl (sRd_spells _ (by omega) v1 v2 5 (by decide) I J B q6 cq6) rfl rfl (Nat.le_of_ble_eq_true rfl) dX6_wordKind_80 ?_
            refine a_if_eq (tgt := 90) dX6_wordKind_83 (by decide) (fun c => ?_) (fun c => ?_)
            · replace h := h_iteT c h
              refine a_aload_n dX6_wordKind_90 rfl rfl ?_
              refine a_iload_n dX6_wordKind_91 rfl rfl ?_
              refine a_iload_n dX6_wordKind_92 rfl rfl ?_
              refine a_ldcS (i := 6) lit_6_116 kdC_len dX6_wordKind_93 ?_
              obtain ⟨q7, cq7, h⟩ := h_bindS h
              refine a_callV1 [] yy_X6_spells ml_6_102 kc_1 rfl (sRd_spells _ (by omega) v1 v2 6 (by decide) I J B q7 cq7) rfl rfl (Nat.le_of_ble_eq_true rfl) dX6_wordKind_95 ?_
              refine a_if_eq (tgt := 105) dX6_wordKind_98 (by decide) (fun c => ?_) (fun c => ?_)
              · replace h := h_iteT c h
                refine a_aload_n dX6_wordKind_105 rfl rfl ?_
                refine a_iload_n dX6_wordKind_106 rfl rfl ?_
                refine a_iload_n dX6_wordKind_107 rfl rfl ?_
                refine a_ldcS (i := 7) lit_6_118 kdC_len dX6_wordKind_108 ?_
                obtain ⟨q8, cq8, h⟩ := h_bindS h
                refine a_callV1 [] yy_X6_spells ml_6_102 kc_1 rfl (sRd_spells _ (by omega) v1 v2 7 (by decide) I J B q8 cq8) rfl rfl (Nat.le_of_ble_eq_true rfl) dX6_wordKind_110 ?_
                refine a_if_eq (tgt := 120) dX6_wordKind_113 (by decide) (fun c => ?_) (fun c => ?_)
                · replace h := h_iteT c h
                  refine a_aload_n dX6_wordKind_120 rfl rfl ?_
                  refine a_iload_n dX6_wordKind_121 rfl rfl ?_
                  refine a_iload_n dX6_wordKind_122 rfl rfl ?_
                  refine a_ldcS (i := 8) lit_6_120 kdC_len dX6_wordKind_123 ?_
                  obtain ⟨q9, cq9, h⟩ := h_bindS h
                  refine a_callV1 [] yy_X6_spells ml_6_102 kc_1 rfl (sRd_spells _ (by omega) v1 v2 8 (by decide) I J B q9 cq9) rfl rfl (Nat.le_of_ble_eq_true rfl) dX6_wordKind_125 ?_
                  refine a_if_eq (tgt := 135) dX6_wordKind_128 (by decide) (fun c => ?_) (fun c => ?_)
                  · replace h := h_iteT c h
                    refine a_aload_n dX6_wordKind_135 rfl rfl ?_
                    refine a_iload_n dX6_wordKind_136 rfl rfl ?_
                    refine a_iload_n dX6_wordKind_137 rfl rfl ?_
                    refine a_ldcS (i := 9) lit_6_122 kdC_len dX6_wordKind_138 ?_
                    obtain ⟨q10, cq10, h⟩ := h_bindS h
                    refine a_callV1 [] yy_X6_spells ml_6_102 kc_1 rfl (sRd_spells _ (by omega) v1 v2 9 (by decide) I J B q10 cq10) rfl rfl (Nat.le_of_ble_eq_true rfl) dX6_wordKind_140 ?_
                    refine a_if_eq (tgt := 150) dX6_wordKind_143 (by decide) (fun c => ?_) (fun c => ?_)
                    · replace h := h_iteT c h
                      refine a_aload_n dX6_wordKind_150 rfl rfl ?_
                      refine a_iload_n dX6_wordKind_151 rfl rfl ?_
                      refine a_iload_n dX6_wordKind_152 rfl rfl ?_
                      refine a_ldcS (i := 10) lit_6_124 kdC_len dX6_wordKind_153 ?_
                      obtain ⟨q11, cq11, h⟩ := h_bindS h
                      refine a_callV1 [] yy_X6_spells ml_6_102 kc_1 rfl (sRd_spells _ (by omega) v1 v2 10 (by decide) I J B q11 cq11) rfl rfl (Nat.le_of_ble_eq_true rfl) dX6_wordKind_155 ?_
                      refine a_if_eq (tgt := 167) dX6_wordKind_158 (by decide) (fun c => ?_) (fun c => ?_)
                      · replace h := h_iteT c h
                        refine a_sipush dX6_wordKind_167 sq_257 ?_
                        cases h
                        exact a_iret dX6_wordKind_170
                      · replace h := h_iteF c h
                        refine a_sipush dX6_wordKind_161 sq_268 ?_
                        refine a_goto (tgt := 170) dX6_wordKind_164 (by decide) ?_
                        cases h
                        exact a_iret dX6_wordKind_170
                    · replace h := h_iteF c h
                      refine a_sipush dX6_wordKind_146 sq_267 ?_
                      cases h
                      exact a_iret dX6_wordKind_149
                  · replace h := h_iteF c h
                    refine a_sipush dX6_wordKind_131 sq_266 ?_
                    cases h
                    exact a_iret dX6_wordKind_134
                · replace h := h_iteF c h
                  refine a_sipush dX6_wordKind_116 sq_265 ?_
                  cases h
                  exact a_iret dX6_wordKind_119
              · replace h := h_iteF c h
                refine a_sipush dX6_wordKind_101 sq_264 ?_
                cases h
                exact a_iret dX6_wordKind_104
            · replace h := h_iteF c h
              refine a_sipush dX6_wordKind_86 sq_263 ?_
              cases h
              exact a_iret dX6_wordKind_89
          · replace h := h_iteF c h
            refine a_sipush dX6_wordKind_71 sq_262 ?_
            cases h
            exact a_iret dX6_wordKind_74
        · replace h := h_iteF c h
          refine a_sipush dX6_wordKind_56 sq_261 ?_
          cases h
          exact a_iret dX6_wordKind_59
      · replace h := h_iteF c h
        refine a_sipush dX6_wordKind_41 sq_260 ?_
        cases h
        exact a_iret dX6_wordKind_44
    · replace h := h_iteF c h
      refine a_sipush dX6_wordKind_26 sq_259 ?_
      cases h
      exact a_iret dX6_wordKind_29
  · replace h := h_iteF c h
    refine a_sipush dX6_wordKind_11 sq_258 ?_
    cases h
    exact a_iret dX6_wordKind_14
/-! CoinLoops$Reader.isDigit(I)Z -/
theorem dX6_isDigit_0 : decode cX6_isDigit 0 = .ok (.iload_n 0, 1) := by decide +kernel
theorem dX6_isDigit_1 : decode cX6_isDigit 1 = .ok (.bipush 48, 2) := by decide +kernel
theorem dX6_isDigit_3 : decode cX6_isDigit 3 = .ok (.if_icmp .lt 13, 3) := by decide +kernel
theorem dX6_isDigit_6 : decode cX6_isDigit 6 = .ok (.iload_n 0, 1) := by decide +kernel
theorem dX6_isDigit_7 : decode cX6_isDigit 7 = .ok (.bipush 57, 2) := by decide +kernel
theorem dX6_isDigit_9 : decode cX6_isDigit 9 = .ok (.if_icmp .gt 7, 3) := by decide +kernel
theorem dX6_isDigit_12 : decode cX6_isDigit 12 = .ok (.iconst 1, 1) := by decide +kernel
theorem dX6_isDigit_13 : decode cX6_isDigit 13 = .ok (.goto 4, 3) := by decide +kernel
theorem dX6_isDigit_16 : decode cX6_isDigit 16 = .ok (.iconst 0, 1) := by decide +kernel
theorem dX6_isDigit_17 : decode cX6_isDigit 17 = .ok (.ireturn, 1) := by decide +kernel
def mRd_isDigit  (v0 : Int32)  : Int32 :=
  if v0 < (48 : Int32) then
    (0 : Int32)
  else
    (if (57 : Int32) < v0 then
      (0 : Int32)
    else
      (1 : Int32))
set_option maxHeartbeats 4000000 in
theorem sRd_isDigit (d : Nat) (hd : 0 ≤ d) (v0 : Int32) (I : hI) (J : hJ) (B : Bool × Bool) (q : Int32) (h : mRd_isDigit v0 = q) : HMet hFT yX6_isDigit cX6_isDigit 1 (some .boolean) kdC d [.int v0] (I, J, RM B) (some (.int q)) (I, J, RM B) := by
  refine HMet.of (by decide) (Nat.le_of_ble_eq_true rfl) ?_
  show AW hFT cX6_isDigit 1 (some .boolean) RX6 kdC d [(0, .int v0)] 0 [] (I, J, RM B) (some (.int q)) (I, J, RM B)
  unfold mRd_isDigit at h
  refine a_iload_n dX6_isDigit_0 rfl rfl ?_
  refine a_bipush dX6_isDigit_1 bp_48 ?_
  refine a_icmp_lt (tgt := 16) dX6_isDigit_3 (by decide) (fun c => ?_) (fun c => ?_)
  · replace h := h_iteT c h
    refine a_iconst dX6_isDigit_16 ic_0 ?_
    cases h
    exact a_zret (h_Z0.1) dX6_isDigit_17
  · replace h := h_iteF c h
    refine a_iload_n dX6_isDigit_6 rfl rfl ?_
    refine a_bipush dX6_isDigit_7 bp_57 ?_
    refine a_icmp_gt (tgt := 16) dX6_isDigit_9 (by decide) (fun c => ?_) (fun c => ?_)
    · replace h := h_iteT c h
      refine a_iconst dX6_isDigit_16 ic_0 ?_
      cases h
      exact a_zret (h_Z0.1) dX6_isDigit_17
    · replace h := h_iteF c h
      refine a_iconst dX6_isDigit_12 ic_1 ?_
      refine a_goto (tgt := 17) dX6_isDigit_13 (by decide) ?_
      cases h
      exact a_zret (h_Z1.1) dX6_isDigit_17
/-! CoinLoops$Reader.numberAt(II)I -/
theorem dX6_numberAt_0 : decode cX6_numberAt 0 = .ok (.aload_n 0, 1) := by decide +kernel
theorem dX6_numberAt_1 : decode cX6_numberAt 1 = .ok (.iload_n 2, 1) := by decide +kernel
theorem dX6_numberAt_2 : decode cX6_numberAt 2 = .ok (.iconst 1, 1) := by decide +kernel
theorem dX6_numberAt_3 : decode cX6_numberAt 3 = .ok (.isub, 1) := by decide +kernel
theorem dX6_numberAt_4 : decode cX6_numberAt 4 = .ok (.invokevirtual 35, 3) := by decide +kernel
theorem dX6_numberAt_7 : decode cX6_numberAt 7 = .ok (.bipush 48, 2) := by decide +kernel
theorem dX6_numberAt_9 : decode cX6_numberAt 9 = .ok (.isub, 1) := by decide +kernel
theorem dX6_numberAt_10 : decode cX6_numberAt 10 = .ok (.istore_n 3, 1) := by decide +kernel
theorem dX6_numberAt_11 : decode cX6_numberAt 11 = .ok (.iload_n 2, 1) := by decide +kernel
theorem dX6_numberAt_12 : decode cX6_numberAt 12 = .ok (.iload_n 1, 1) := by decide +kernel
theorem dX6_numberAt_13 : decode cX6_numberAt 13 = .ok (.isub, 1) := by decide +kernel
theorem dX6_numberAt_14 : decode cX6_numberAt 14 = .ok (.iconst 1, 1) := by decide +kernel
theorem dX6_numberAt_15 : decode cX6_numberAt 15 = .ok (.if_icmp .ne 5, 3) := by decide +kernel
theorem dX6_numberAt_18 : decode cX6_numberAt 18 = .ok (.iload_n 3, 1) := by decide +kernel
theorem dX6_numberAt_19 : decode cX6_numberAt 19 = .ok (.ireturn, 1) := by decide +kernel
theorem dX6_numberAt_20 : decode cX6_numberAt 20 = .ok (.iload_n 2, 1) := by decide +kernel
theorem dX6_numberAt_21 : decode cX6_numberAt 21 = .ok (.iload_n 1, 1) := by decide +kernel
theorem dX6_numberAt_22 : decode cX6_numberAt 22 = .ok (.isub, 1) := by decide +kernel
theorem dX6_numberAt_23 : decode cX6_numberAt 23 = .ok (.iconst 2, 1) := by decide +kernel
theorem dX6_numberAt_24 : decode cX6_numberAt 24 = .ok (.if_icmp .ne 19, 3) := by decide +kernel
theorem dX6_numberAt_27 : decode cX6_numberAt 27 = .ok (.aload_n 0, 1) := by decide +kernel
theorem dX6_numberAt_28 : decode cX6_numberAt 28 = .ok (.iload_n 1, 1) := by decide +kernel
theorem dX6_numberAt_29 : decode cX6_numberAt 29 = .ok (.invokevirtual 35, 3) := by decide +kernel
theorem dX6_numberAt_32 : decode cX6_numberAt 32 = .ok (.bipush 48, 2) := by decide +kernel
theorem dX6_numberAt_34 : decode cX6_numberAt 34 = .ok (.isub, 1) := by decide +kernel
theorem dX6_numberAt_35 : decode cX6_numberAt 35 = .ok (.bipush 10, 2) := by decide +kernel
theorem dX6_numberAt_37 : decode cX6_numberAt 37 = .ok (.imul, 1) := by decide +kernel
theorem dX6_numberAt_38 : decode cX6_numberAt 38 = .ok (.iload_n 3, 1) := by decide +kernel
theorem dX6_numberAt_39 : decode cX6_numberAt 39 = .ok (.iadd, 1) := by decide +kernel
theorem dX6_numberAt_40 : decode cX6_numberAt 40 = .ok (.goto 5, 3) := by decide +kernel
theorem dX6_numberAt_43 : decode cX6_numberAt 43 = .ok (.bipush 100, 2) := by decide +kernel
theorem dX6_numberAt_45 : decode cX6_numberAt 45 = .ok (.ireturn, 1) := by decide +kernel
def mRd_numberAt  (v1 : Int32) (v2 : Int32) (I : hI) : Option (Int32) :=
  (mRd_byteAt (v2 - (1 : Int32)) I).bind fun q1 =>
  h_let (q1 - (48 : Int32)) fun v3x1 =>
  if (v2 - v1) = (1 : Int32) then
    some v3x1
  else
    (if (v2 - v1) = (2 : Int32) then
      ((mRd_byteAt v1 I).bind fun q3 =>
      some (((q3 - (48 : Int32)) * (10 : Int32)) + v3x1))
    else
      some (100 : Int32))
set_option maxHeartbeats 4000000 in
theorem sRd_numberAt (d : Nat) (hd : 0 + 1 ≤ d) (v1 : Int32) (v2 : Int32) (I : hI) (J : hJ) (B : Bool × Bool) (q : Int32) (h : mRd_numberAt v1 v2 I = some q) : HMet hFT yX6_numberAt cX6_numberAt 4 (some .int) kdC d [.ref 1, .int v1, .int v2] (I, J, RM B) (some (.int q)) (I, J, RM B) := by
  obtain ⟨d0, rfl, hd0⟩ := h_mono hd
  refine HMet.of (by decide) (Nat.le_of_ble_eq_true rfl) ?_
  show AW hFT cX6_numberAt 4 (some .int) RX6 kdC (d0 + 1) [(0, .ref 1), (1, .int v1), (2, .int v2)] 0 [] (I, J, RM B) (some (.int q)) (I, J, RM B)
  unfold mRd_numberAt at h
  refine a_aload_n dX6_numberAt_0 rfl rfl ?_
  refine a_iload_n dX6_numberAt_1 rfl rfl ?_
  refine a_iconst dX6_numberAt_2 ic_1 ?_
  refine a_isub dX6_numberAt_3 ?_
  obtain ⟨q1, cq1, h⟩ := h_bindS h
  refine a_callV1 [] yy_X6_byteAt ml_6_35 kc_1 rfl (sRd_byteAt _ (by omega) (v2 - (1 : Int32)) I J B q1 cq1) rfl rfl (Nat.le_of_ble_eq_true rfl) dX6_numberAt_4 ?_
  refine a_bipush dX6_numberAt_7 bp_48 ?_
  refine a_isub dX6_numberAt_9 ?_
  obtain ⟨v3x1, ev3x1, h⟩ := h_letS h
  refine a_topI ev3x1 ?_
  refine a_istore_n (lv' := [(3, .int v3x1), (0, .ref 1), (1, .int v1), (2, .int v2)]) dX6_numberAt_10 rfl (by decide) rfl ?_
  refine a_iload_n dX6_numberAt_11 rfl rfl ?_
  refine a_iload_n dX6_numberAt_12 rfl rfl ?_
  refine a_isub dX6_numberAt_13 ?_
  refine a_iconst dX6_numberAt_14 ic_1 ?_
  refine a_icmp_ne (tgt := 20) dX6_numberAt_15 (by decide) (fun c => ?_) (fun c => ?_)
  · replace h := h_iteF c h
    refine a_iload_n dX6_numberAt_20 rfl rfl ?_
    refine a_iload_n dX6_numberAt_21 rfl rfl ?_
    refine a_isub dX6_numberAt_22 ?_
    refine a_iconst dX6_numberAt_23 ic_2 ?_
    refine a_icmp_ne (tgt := 43) dX6_numberAt_24 (by decide) (fun c => ?_) (fun c => ?_)
    · replace h := h_iteF c h
      refine a_bipush dX6_numberAt_43 bp_100 ?_
      cases h
      exact a_iret dX6_numberAt_45
    · replace h := h_iteT c h
      refine a_aload_n dX6_numberAt_27 rfl rfl ?_
      refine a_iload_n dX6_numberAt_28 rfl rfl ?_
      obtain ⟨q3, cq3, h⟩ := h_bindS h
      refine a_callV1 [] yy_X6_byteAt ml_6_35 kc_1 rfl (sRd_byteAt _ (by omega) v1 I J B q3 cq3) rfl rfl (Nat.le_of_ble_eq_true rfl) dX6_numberAt_29 ?_
      refine a_bipush dX6_numberAt_32 bp_48 ?_
      refine a_isub dX6_numberAt_34 ?_
      refine a_bipush dX6_numberAt_35 bp_10 ?_
      refine a_imul dX6_numberAt_37 ?_
      refine a_iload_n dX6_numberAt_38 rfl rfl ?_
      refine a_iadd dX6_numberAt_39 ?_
      refine a_goto (tgt := 45) dX6_numberAt_40 (by decide) ?_
      cases h
      exact a_iret dX6_numberAt_45
  · replace h := h_iteT c h
    refine a_iload_n dX6_numberAt_18 rfl rfl ?_
    cases h
    exact a_iret dX6_numberAt_19
/-! CoinLoops$Reader.addPart(I)I -/
theorem dX6_addPart_0 : decode cX6_addPart 0 = .ok (.aload_n 0, 1) := by decide +kernel
theorem dX6_addPart_1 : decode cX6_addPart 1 = .ok (.getfield 32, 3) := by decide +kernel
theorem dX6_addPart_4 : decode cX6_addPart 4 = .ok (.sipush 500, 3) := by decide +kernel
theorem dX6_addPart_7 : decode cX6_addPart 7 = .ok (.invokestatic 28, 3) := by decide +kernel
theorem dX6_addPart_10 : decode cX6_addPart 10 = .ok (.ifCond .eq 8, 3) := by decide +kernel
theorem dX6_addPart_13 : decode cX6_addPart 13 = .ok (.aload_n 0, 1) := by decide +kernel
theorem dX6_addPart_14 : decode cX6_addPart 14 = .ok (.getfield 24, 3) := by decide +kernel
theorem dX6_addPart_17 : decode cX6_addPart 17 = .ok (.ireturn, 1) := by decide +kernel
theorem dX6_addPart_18 : decode cX6_addPart 18 = .ok (.aload_n 0, 1) := by decide +kernel
theorem dX6_addPart_19 : decode cX6_addPart 19 = .ok (.iload_n 1, 1) := by decide +kernel
theorem dX6_addPart_20 : decode cX6_addPart 20 = .ok (.invokevirtual 35, 3) := by decide +kernel
theorem dX6_addPart_23 : decode cX6_addPart 23 = .ok (.istore_n 2, 1) := by decide +kernel
theorem dX6_addPart_24 : decode cX6_addPart 24 = .ok (.iload_n 1, 1) := by decide +kernel
theorem dX6_addPart_25 : decode cX6_addPart 25 = .ok (.iconst 1, 1) := by decide +kernel
theorem dX6_addPart_26 : decode cX6_addPart 26 = .ok (.iadd, 1) := by decide +kernel
theorem dX6_addPart_27 : decode cX6_addPart 27 = .ok (.istore_n 3, 1) := by decide +kernel
theorem dX6_addPart_28 : decode cX6_addPart 28 = .ok (.aload_n 0, 1) := by decide +kernel
theorem dX6_addPart_29 : decode cX6_addPart 29 = .ok (.getfield 15, 3) := by decide +kernel
theorem dX6_addPart_32 : decode cX6_addPart 32 = .ok (.aload_n 0, 1) := by decide +kernel
theorem dX6_addPart_33 : decode cX6_addPart 33 = .ok (.getfield 32, 3) := by decide +kernel
theorem dX6_addPart_36 : decode cX6_addPart 36 = .ok (.iload_n 2, 1) := by decide +kernel
theorem dX6_addPart_37 : decode cX6_addPart 37 = .ok (.iastore, 1) := by decide +kernel
theorem dX6_addPart_38 : decode cX6_addPart 38 = .ok (.aload_n 0, 1) := by decide +kernel
theorem dX6_addPart_39 : decode cX6_addPart 39 = .ok (.getfield 18, 3) := by decide +kernel
theorem dX6_addPart_42 : decode cX6_addPart 42 = .ok (.aload_n 0, 1) := by decide +kernel
theorem dX6_addPart_43 : decode cX6_addPart 43 = .ok (.getfield 32, 3) := by decide +kernel
theorem dX6_addPart_46 : decode cX6_addPart 46 = .ok (.iload_n 1, 1) := by decide +kernel
theorem dX6_addPart_47 : decode cX6_addPart 47 = .ok (.iastore, 1) := by decide +kernel
theorem dX6_addPart_48 : decode cX6_addPart 48 = .ok (.iload_n 2, 1) := by decide +kernel
theorem dX6_addPart_49 : decode cX6_addPart 49 = .ok (.invokestatic 87, 3) := by decide +kernel
theorem dX6_addPart_52 : decode cX6_addPart 52 = .ok (.ifCond .eq 52, 3) := by decide +kernel
theorem dX6_addPart_55 : decode cX6_addPart 55 = .ok (.iconst 0, 1) := by decide +kernel
theorem dX6_addPart_56 : decode cX6_addPart 56 = .ok (.istore 4, 2) := by decide +kernel
theorem dX6_addPart_58 : decode cX6_addPart 58 = .ok (.iload 4, 2) := by decide +kernel
theorem dX6_addPart_60 : decode cX6_addPart 60 = .ok (.sipush 500, 3) := by decide +kernel
theorem dX6_addPart_63 : decode cX6_addPart 63 = .ok (.if_icmp .ge 23, 3) := by decide +kernel
theorem dX6_addPart_66 : decode cX6_addPart 66 = .ok (.aload_n 0, 1) := by decide +kernel
theorem dX6_addPart_67 : decode cX6_addPart 67 = .ok (.iload_n 3, 1) := by decide +kernel
theorem dX6_addPart_68 : decode cX6_addPart 68 = .ok (.invokevirtual 35, 3) := by decide +kernel
theorem dX6_addPart_71 : decode cX6_addPart 71 = .ok (.invokestatic 87, 3) := by decide +kernel
theorem dX6_addPart_74 : decode cX6_addPart 74 = .ok (.ifCond .eq 12, 3) := by decide +kernel
theorem dX6_addPart_77 : decode cX6_addPart 77 = .ok (.iinc 3 1, 3) := by decide +kernel
theorem dX6_addPart_80 : decode cX6_addPart 80 = .ok (.iinc 4 1, 3) := by decide +kernel
theorem dX6_addPart_83 : decode cX6_addPart 83 = .ok (.goto (-25), 3) := by decide +kernel
theorem dX6_addPart_86 : decode cX6_addPart 86 = .ok (.aload_n 0, 1) := by decide +kernel
theorem dX6_addPart_87 : decode cX6_addPart 87 = .ok (.getfield 15, 3) := by decide +kernel
theorem dX6_addPart_90 : decode cX6_addPart 90 = .ok (.aload_n 0, 1) := by decide +kernel
theorem dX6_addPart_91 : decode cX6_addPart 91 = .ok (.getfield 32, 3) := by decide +kernel
theorem dX6_addPart_94 : decode cX6_addPart 94 = .ok (.aload_n 0, 1) := by decide +kernel
theorem dX6_addPart_95 : decode cX6_addPart 95 = .ok (.iload_n 1, 1) := by decide +kernel
theorem dX6_addPart_96 : decode cX6_addPart 96 = .ok (.iload_n 3, 1) := by decide +kernel
theorem dX6_addPart_97 : decode cX6_addPart 97 = .ok (.invokevirtual 90, 3) := by decide +kernel
theorem dX6_addPart_100 : decode cX6_addPart 100 = .ok (.iastore, 1) := by decide +kernel
theorem dX6_addPart_101 : decode cX6_addPart 101 = .ok (.goto 68, 3) := by decide +kernel
theorem dX6_addPart_104 : decode cX6_addPart 104 = .ok (.iload_n 2, 1) := by decide +kernel
theorem dX6_addPart_105 : decode cX6_addPart 105 = .ok (.invokestatic 94, 3) := by decide +kernel
theorem dX6_addPart_108 : decode cX6_addPart 108 = .ok (.ifCond .eq 61, 3) := by decide +kernel
theorem dX6_addPart_111 : decode cX6_addPart 111 = .ok (.iconst 0, 1) := by decide +kernel
theorem dX6_addPart_112 : decode cX6_addPart 112 = .ok (.istore 4, 2) := by decide +kernel
theorem dX6_addPart_114 : decode cX6_addPart 114 = .ok (.iload 4, 2) := by decide +kernel
theorem dX6_addPart_116 : decode cX6_addPart 116 = .ok (.sipush 500, 3) := by decide +kernel
theorem dX6_addPart_119 : decode cX6_addPart 119 = .ok (.if_icmp .ge 23, 3) := by decide +kernel
theorem dX6_addPart_122 : decode cX6_addPart 122 = .ok (.aload_n 0, 1) := by decide +kernel
theorem dX6_addPart_123 : decode cX6_addPart 123 = .ok (.iload_n 3, 1) := by decide +kernel
theorem dX6_addPart_124 : decode cX6_addPart 124 = .ok (.invokevirtual 35, 3) := by decide +kernel
theorem dX6_addPart_127 : decode cX6_addPart 127 = .ok (.invokestatic 94, 3) := by decide +kernel
theorem dX6_addPart_130 : decode cX6_addPart 130 = .ok (.ifCond .eq 12, 3) := by decide +kernel
theorem dX6_addPart_133 : decode cX6_addPart 133 = .ok (.iinc 3 1, 3) := by decide +kernel
theorem dX6_addPart_136 : decode cX6_addPart 136 = .ok (.iinc 4 1, 3) := by decide +kernel
theorem dX6_addPart_139 : decode cX6_addPart 139 = .ok (.goto (-25), 3) := by decide +kernel
theorem dX6_addPart_142 : decode cX6_addPart 142 = .ok (.aload_n 0, 1) := by decide +kernel
theorem dX6_addPart_143 : decode cX6_addPart 143 = .ok (.getfield 15, 3) := by decide +kernel
theorem dX6_addPart_146 : decode cX6_addPart 146 = .ok (.aload_n 0, 1) := by decide +kernel
theorem dX6_addPart_147 : decode cX6_addPart 147 = .ok (.getfield 32, 3) := by decide +kernel
theorem dX6_addPart_150 : decode cX6_addPart 150 = .ok (.sipush 256, 3) := by decide +kernel
theorem dX6_addPart_153 : decode cX6_addPart 153 = .ok (.iastore, 1) := by decide +kernel
theorem dX6_addPart_154 : decode cX6_addPart 154 = .ok (.aload_n 0, 1) := by decide +kernel
theorem dX6_addPart_155 : decode cX6_addPart 155 = .ok (.getfield 21, 3) := by decide +kernel
theorem dX6_addPart_158 : decode cX6_addPart 158 = .ok (.aload_n 0, 1) := by decide +kernel
theorem dX6_addPart_159 : decode cX6_addPart 159 = .ok (.getfield 32, 3) := by decide +kernel
theorem dX6_addPart_162 : decode cX6_addPart 162 = .ok (.aload_n 0, 1) := by decide +kernel
theorem dX6_addPart_163 : decode cX6_addPart 163 = .ok (.iload_n 1, 1) := by decide +kernel
theorem dX6_addPart_164 : decode cX6_addPart 164 = .ok (.iload_n 3, 1) := by decide +kernel
theorem dX6_addPart_165 : decode cX6_addPart 165 = .ok (.invokevirtual 97, 3) := by decide +kernel
theorem dX6_addPart_168 : decode cX6_addPart 168 = .ok (.iastore, 1) := by decide +kernel
theorem dX6_addPart_169 : decode cX6_addPart 169 = .ok (.aload_n 0, 1) := by decide +kernel
theorem dX6_addPart_170 : decode cX6_addPart 170 = .ok (.dup, 1) := by decide +kernel
theorem dX6_addPart_171 : decode cX6_addPart 171 = .ok (.getfield 32, 3) := by decide +kernel
theorem dX6_addPart_174 : decode cX6_addPart 174 = .ok (.iconst 1, 1) := by decide +kernel
theorem dX6_addPart_175 : decode cX6_addPart 175 = .ok (.iadd, 1) := by decide +kernel
theorem dX6_addPart_176 : decode cX6_addPart 176 = .ok (.putfield 32, 3) := by decide +kernel
theorem dX6_addPart_179 : decode cX6_addPart 179 = .ok (.iload_n 3, 1) := by decide +kernel
theorem dX6_addPart_180 : decode cX6_addPart 180 = .ok (.ireturn, 1) := by decide +kernel
def mRd_addPart_169  (v3 : Int32) (I : hI) : Option (Int32 × hI) :=
  h_let (h_u I 1 5 ((I 1 5) + (1 : Int32))) fun I1 =>
  some (v3, I1)
set_option maxHeartbeats 4000000 in
theorem sRd_addPart_169 (d : Nat) (hd : 8 + 1 ≤ d) (v3 : Int32) (I : hI) (J : hJ) (B : Bool × Bool) (q : Int32 × hI) (h : mRd_addPart_169 v3 I = some q) : AW hFT cX6_addPart 5 (some .int) RX6 kdC d [(0, .ref 1), (3, .int v3)] 169 [] (I, J, RM B) (some (.int q.1)) (q.2, J, RM B) := by
  obtain ⟨d0, rfl, hd0⟩ := h_mono hd
  unfold mRd_addPart_169 at h
  refine a_aload_n dX6_addPart_169 rfl rfl ?_
  refine a_dup dX6_addPart_170 rfl ?_
  refine b_getI hK_6 kc_1 (i := 5) rfl fl_6_32 rfl dX6_addPart_171 ?_
  refine a_iconst dX6_addPart_174 ic_1 ?_
  refine a_iadd dX6_addPart_175 ?_
  refine b_putI hK_6 kc_1 (i := 5) rfl fl_6_32 rfl rfl (h_NI _) dX6_addPart_176 ?_
  obtain ⟨I1, eI1, h⟩ := h_letS h
  refine a_memI eI1 ?_
  refine a_iload_n dX6_addPart_179 rfl rfl ?_
  cases h
  exact a_iret dX6_addPart_180
def mRd_addPart_142  (v1 : Int32) (v3 : Int32) (I : hI) : Option (Int32 × hI) :=
  h_g (h_in (I 1 5) 501) <|
  h_let (h_u I 3 (I 1 5).toNatClampNeg (256 : Int32)) fun I2 =>
  (mRd_numberAt v1 v3 I2).bind fun q3 =>
  h_g (h_in (I2 1 5) 501) <|
  h_let (h_u I2 5 (I2 1 5).toNatClampNeg q3) fun I5 =>
  mRd_addPart_169 v3 I5
set_option maxHeartbeats 4000000 in
theorem sRd_addPart_142 (d : Nat) (hd : 8 + 1 ≤ d) (v1 : Int32) (v3 : Int32) (I : hI) (J : hJ) (B : Bool × Bool) (q : Int32 × hI) (h : mRd_addPart_142 v1 v3 I = some q) : AW hFT cX6_addPart 5 (some .int) RX6 kdC d [(0, .ref 1), (1, .int v1), (3, .int v3)] 142 [] (I, J, RM B) (some (.int q.1)) (q.2, J, RM B) := by
  obtain ⟨d0, rfl, hd0⟩ := h_mono hd
  unfold mRd_addPart_142 at h
  refine a_aload_n dX6_addPart_142 rfl rfl ?_
  refine b_getR hK_6 kc_1 (i := 2) rfl fl_6_15 rfl (rm_1_2 B) dX6_addPart_143 ?_
  refine a_aload_n dX6_addPart_146 rfl rfl ?_
  refine b_getI hK_6 kc_1 (i := 5) rfl fl_6_32 rfl dX6_addPart_147 ?_
  refine a_sipush dX6_addPart_150 sq_256 ?_
  obtain ⟨g1, h⟩ := h_gS h
  refine b_iastore kc_3 (h_inV g1) dX6_addPart_153 ?_
  obtain ⟨I2, eI2, h⟩ := h_letS h
  refine a_memI eI2 ?_
  refine a_aload_n dX6_addPart_154 rfl rfl ?_
  refine b_getR hK_6 kc_1 (i := 4) rfl fl_6_21 rfl (rm_1_4 B) dX6_addPart_155 ?_
  refine a_aload_n dX6_addPart_158 rfl rfl ?_
  refine b_getI hK_6 kc_1 (i := 5) rfl fl_6_32 rfl dX6_addPart_159 ?_
  refine a_aload_n dX6_addPart_162 rfl rfl ?_
  refine a_iload_n dX6_addPart_163 rfl rfl ?_
  refine a_iload_n dX6_addPart_164 rfl rfl ?_
  obtain ⟨q3, cq3, h⟩ := h_bindS h
  refine a_callV1 [.int (I2 1 5), .ref 5] yy_X6_numberAt ml_6_97 kc_1 rfl (sRd_numberAt _ (by omega) v1 v3 I2 J B q3 cq3) rfl rfl (Nat.le_of_ble_eq_true rfl) dX6_addPart_165 ?_
  obtain ⟨g4, h⟩ := h_gS h
  refine b_iastore kc_5 (h_inV g4) dX6_addPart_168 ?_
  obtain ⟨I5, eI5, h⟩ := h_letS h
  refine a_memI eI5 ?_
  refine a_sub (lv' := [(0, .ref 1), (3, .int v3)]) [0, 2] rfl ?_
  exact sRd_addPart_169 (d0 + 1) (by omega) v3 I5 J B _ h
def mRd_addPart_B114 (k114 : Int32 → Int32 → Int32 → hI → Option (Int32 × hI)) (v1 : Int32) (v3 : Int32) (v4 : Int32) (I : hI) : Option (Int32 × hI) :=
  if (500 : Int32) ≤ v4 then
    mRd_addPart_142 v1 v3 I
  else
    ((mRd_byteAt v3 I).bind fun q1 =>
    if (mRd_isDigit q1) = 0 then
      mRd_addPart_142 v1 v3 I
    else
      k114 v1 (v3 + (1 : Int32)) (v4 + (1 : Int32)) I)
set_option maxHeartbeats 4000000 in
theorem sRd_addPart_B114 (d : Nat) (hd : 8 + 1 ≤ d) (k114 : Int32 → Int32 → Int32 → hI → Option (Int32 × hI)) (hk114 : ∀ (v1 : Int32) (v3 : Int32) (v4 : Int32) (I : hI) (J : hJ) (B : Bool × Bool) (q : Int32 × hI), k114 v1 v3 v4 I = some q → AW hFT cX6_addPart 5 (some .int) RX6 kdC d [(0, .ref 1), (1, .int v1), (3, .int v3), (4, .int v4)] 114 [] (I, J, RM B) (some (.int q.1)) (q.2, J, RM B)) (v1 : Int32) (v3 : Int32) (v4 : Int32) (I : hI) (J : hJ) (B : Bool × Bool) (q : Int32 × hI) (h : mRd_addPart_B114 k114 v1 v3 v4 I = some q) : AW hFT cX6_addPart 5 (some .int) RX6 kdC d [(0, .ref 1), (1, .int v1), (3, .int v3), (4, .int v4)] 114 [] (I, J, RM B) (some (.int q.1)) (q.2, J, RM B) := by
  obtain ⟨d0, rfl, hd0⟩ := h_mono hd
  unfold mRd_addPart_B114 at h
  refine a_iload dX6_addPart_114 rfl ?_
  refine a_sipush dX6_addPart_116 sq_500 ?_
  refine a_icmp_ge (tgt := 142) dX6_addPart_119 (by decide) (fun c => ?_) (fun c => ?_)
  · replace h := h_iteT c h
    refine a_sub (lv' := [(0, .ref 1), (1, .int v1), (3, .int v3)]) [0, 1, 2] rfl ?_
    exact sRd_addPart_142 (d0 + 1) (by omega) v1 v3 I J B _ h
  · replace h := h_iteF c h
    refine a_aload_n dX6_addPart_122 rfl rfl ?_
    refine a_iload_n dX6_addPart_123 rfl rfl ?_
    obtain ⟨q1, cq1, h⟩ := h_bindS h
    refine a_callV1 [] yy_X6_byteAt ml_6_35 kc_1 rfl (sRd_byteAt _ (by omega) v3 I J B q1 cq1) rfl rfl (Nat.le_of_ble_eq_true rfl) dX6_addPart_124 ?_
    refine a_callS1 [] yy_X6_isDigit ml_6_94 (sRd_isDigit _ (by omega) q1 I J B _ rfl) rfl rfl (Nat.le_of_ble_eq_true rfl) dX6_addPart_127 ?_
    refine a_if_eq (tgt := 142) dX6_addPart_130 (by decide) (fun c => ?_) (fun c => ?_)
    · replace h := h_iteT c h
      refine a_sub (lv' := [(0, .ref 1), (1, .int v1), (3, .int v3)]) [0, 1, 2] rfl ?_
      exact sRd_addPart_142 (d0 + 1) (by omega) v1 v3 I J B _ h
    · replace h := h_iteF c h
      refine b_iinc (lv' := [(3, .int (v3 + (1 : Int32))), (0, .ref 1), (1, .int v1), (4, .int v4)]) dX6_addPart_133 rfl ic_1 (by decide) rfl ?_
      refine b_iinc (lv' := [(4, .int (v4 + (1 : Int32))), (3, .int (v3 + (1 : Int32))), (0, .ref 1), (1, .int v1)]) dX6_addPart_136 rfl ic_1 (by decide) rfl ?_
      refine a_goto (tgt := 114) dX6_addPart_139 (by decide) ?_
      refine a_sub (lv' := [(0, .ref 1), (1, .int v1), (3, .int (v3 + (1 : Int32))), (4, .int (v4 + (1 : Int32)))]) [2, 3, 1, 0] rfl ?_
      exact hk114 v1 (v3 + (1 : Int32)) (v4 + (1 : Int32)) I J B _ h
def mRd_addPart_L114  : Nat → Int32 → Int32 → Int32 → hI → Option (Int32 × hI)
  | 0 => fun _ _ _ _ => none
  | n + 1 => mRd_addPart_B114 (mRd_addPart_L114 n)
theorem sRd_addPart_L114 (d : Nat) (hd : 8 + 1 ≤ d) : ∀ (n : Nat) (v1 : Int32) (v3 : Int32) (v4 : Int32) (I : hI) (J : hJ) (B : Bool × Bool) (q : Int32 × hI) (h : mRd_addPart_L114 n v1 v3 v4 I = some q), AW hFT cX6_addPart 5 (some .int) RX6 kdC d [(0, .ref 1), (1, .int v1), (3, .int v3), (4, .int v4)] 114 [] (I, J, RM B) (some (.int q.1)) (q.2, J, RM B)
  | 0, _, _, _, _, _, _, q, h => by cases h
  | n + 1, v1, v3, v4, I, J, B, q, h => sRd_addPart_B114 d hd (mRd_addPart_L114 n) (sRd_addPart_L114 d hd n) v1 v3 v4 I J B q h
def mRd_addPart_86  (v1 : Int32) (v3 : Int32) (I : hI) : Option (Int32 × hI) :=
  (mRd_wordKind v1 v3 I).bind fun q1 =>
  h_g (h_in (I 1 5) 501) <|
  h_let (h_u I 3 (I 1 5).toNatClampNeg q1) fun I3 =>
  mRd_addPart_169 v3 I3
set_option maxHeartbeats 4000000 in
theorem sRd_addPart_86 (d : Nat) (hd : 8 + 1 ≤ d) (v1 : Int32) (v3 : Int32) (I : hI) (J : hJ) (B : Bool × Bool) (q : Int32 × hI) (h : mRd_addPart_86 v1 v3 I = some q) : AW hFT cX6_addPart 5 (some .int) RX6 kdC d [(0, .ref 1), (1, .int v1), (3, .int v3)] 86 [] (I, J, RM B) (some (.int q.1)) (q.2, J, RM B) := by
  obtain ⟨d0, rfl, hd0⟩ := h_mono hd
  unfold mRd_addPart_86 at h
  refine a_aload_n dX6_addPart_86 rfl rfl ?_
  refine b_getR hK_6 kc_1 (i := 2) rfl fl_6_15 rfl (rm_1_2 B) dX6_addPart_87 ?_
  refine a_aload_n dX6_addPart_90 rfl rfl ?_
  refine b_getI hK_6 kc_1 (i := 5) rfl fl_6_32 rfl dX6_addPart_91 ?_
  refine a_aload_n dX6_addPart_94 rfl rfl ?_
  refine a_iload_n dX6_addPart_95 rfl rfl ?_
  refine a_iload_n dX6_addPart_96 rfl rfl ?_
  obtain ⟨q1, cq1, h⟩ := h_bindS h
  refine a_callV1 [.int (I 1 5), .ref 3] yy_X6_wordKind ml_6_90 kc_1 rfl (sRd_wordKind _ (by omega) v1 v3 I J B q1 cq1) rfl rfl (Nat.le_of_ble_eq_true rfl) dX6_addPart_97 ?_
  obtain ⟨g2, h⟩ := h_gS h
  refine b_iastore kc_3 (h_inV g2) dX6_addPart_100 ?_
  obtain ⟨I3, eI3, h⟩ := h_letS h
  refine a_memI eI3 ?_
  refine a_goto (tgt := 169) dX6_addPart_101 (by decide) ?_
  refine a_sub (lv' := [(0, .ref 1), (3, .int v3)]) [0, 2] rfl ?_
  exact sRd_addPart_169 (d0 + 1) (by omega) v3 I3 J B _ h
def mRd_addPart_B58 (k58 : Int32 → Int32 → Int32 → hI → Option (Int32 × hI)) (v1 : Int32) (v3 : Int32) (v4 : Int32) (I : hI) : Option (Int32 × hI) :=
  if (500 : Int32) ≤ v4 then
    mRd_addPart_86 v1 v3 I
  else
    ((mRd_byteAt v3 I).bind fun q1 =>
    if (mRd_isLetter q1) = 0 then
      mRd_addPart_86 v1 v3 I
    else
      k58 v1 (v3 + (1 : Int32)) (v4 + (1 : Int32)) I)
set_option maxHeartbeats 4000000 in
theorem sRd_addPart_B58 (d : Nat) (hd : 8 + 1 ≤ d) (k58 : Int32 → Int32 → Int32 → hI → Option (Int32 × hI)) (hk58 : ∀ (v1 : Int32) (v3 : Int32) (v4 : Int32) (I : hI) (J : hJ) (B : Bool × Bool) (q : Int32 × hI), k58 v1 v3 v4 I = some q → AW hFT cX6_addPart 5 (some .int) RX6 kdC d [(0, .ref 1), (1, .int v1), (3, .int v3), (4, .int v4)] 58 [] (I, J, RM B) (some (.int q.1)) (q.2, J, RM B)) (v1 : Int32) (v3 : Int32) (v4 : Int32) (I : hI) (J : hJ) (B : Bool × Bool) (q : Int32 × hI) (h : mRd_addPart_B58 k58 v1 v3 v4 I = some q) : AW hFT cX6_addPart 5 (some .int) RX6 kdC d [(0, .ref 1), (1, .int v1), (3, .int v3), (4, .int v4)] 58 [] (I, J, RM B) (some (.int q.1)) (q.2, J, RM B) := by
  obtain ⟨d0, rfl, hd0⟩ := h_mono hd
  unfold mRd_addPart_B58 at h
  refine a_iload dX6_addPart_58 rfl ?_
  refine a_sipush dX6_addPart_60 sq_500 ?_
  refine a_icmp_ge (tgt := 86) dX6_addPart_63 (by decide) (fun c => ?_) (fun c => ?_)
  · replace h := h_iteT c h
    refine a_sub (lv' := [(0, .ref 1), (1, .int v1), (3, .int v3)]) [0, 1, 2] rfl ?_
    exact sRd_addPart_86 (d0 + 1) (by omega) v1 v3 I J B _ h
  · replace h := h_iteF c h
    refine a_aload_n dX6_addPart_66 rfl rfl ?_
    refine a_iload_n dX6_addPart_67 rfl rfl ?_
    obtain ⟨q1, cq1, h⟩ := h_bindS h
    refine a_callV1 [] yy_X6_byteAt ml_6_35 kc_1 rfl (sRd_byteAt _ (by omega) v3 I J B q1 cq1) rfl rfl (Nat.le_of_ble_eq_true rfl) dX6_addPart_68 ?_
    refine a_callS1 [] yy_X6_isLetter ml_6_87 (sRd_isLetter _ (by omega) q1 I J B _ rfl) rfl rfl (Nat.le_of_ble_eq_true rfl) dX6_addPart_71 ?_
    refine a_if_eq (tgt := 86) dX6_addPart_74 (by decide) (fun c => ?_) (fun c => ?_)
    · replace h := h_iteT c h
      refine a_sub (lv' := [(0, .ref 1), (1, .int v1), (3, .int v3)]) [0, 1, 2] rfl ?_
      exact sRd_addPart_86 (d0 + 1) (by omega) v1 v3 I J B _ h
    · replace h := h_iteF c h
      refine b_iinc (lv' := [(3, .int (v3 + (1 : Int32))), (0, .ref 1), (1, .int v1), (4, .int v4)]) dX6_addPart_77 rfl ic_1 (by decide) rfl ?_
      refine b_iinc (lv' := [(4, .int (v4 + (1 : Int32))), (3, .int (v3 + (1 : Int32))), (0, .ref 1), (1, .int v1)]) dX6_addPart_80 rfl ic_1 (by decide) rfl ?_
      refine a_goto (tgt := 58) dX6_addPart_83 (by decide) ?_
      refine a_sub (lv' := [(0, .ref 1), (1, .int v1), (3, .int (v3 + (1 : Int32))), (4, .int (v4 + (1 : Int32)))]) [2, 3, 1, 0] rfl ?_
      exact hk58 v1 (v3 + (1 : Int32)) (v4 + (1 : Int32)) I J B _ h
def mRd_addPart_L58  : Nat → Int32 → Int32 → Int32 → hI → Option (Int32 × hI)
  | 0 => fun _ _ _ _ => none
  | n + 1 => mRd_addPart_B58 (mRd_addPart_L58 n)
theorem sRd_addPart_L58 (d : Nat) (hd : 8 + 1 ≤ d) : ∀ (n : Nat) (v1 : Int32) (v3 : Int32) (v4 : Int32) (I : hI) (J : hJ) (B : Bool × Bool) (q : Int32 × hI) (h : mRd_addPart_L58 n v1 v3 v4 I = some q), AW hFT cX6_addPart 5 (some .int) RX6 kdC d [(0, .ref 1), (1, .int v1), (3, .int v3), (4, .int v4)] 58 [] (I, J, RM B) (some (.int q.1)) (q.2, J, RM B)
  | 0, _, _, _, _, _, _, q, h => by cases h
  | n + 1, v1, v3, v4, I, J, B, q, h => sRd_addPart_B58 d hd (mRd_addPart_L58 n) (sRd_addPart_L58 d hd n) v1 v3 v4 I J B q h
def mRd_addPart  (v1 : Int32) (I : hI) : Option (Int32 × hI) :=
  if (mC_isOutside (I 1 5) (500 : Int32)) = 0 then
    ((mRd_byteAt v1 I).bind fun q1 =>
    h_let (v1 + (1 : Int32)) fun v3x1 =>
    h_g (h_in (I 1 5) 501) <|
    h_let (h_u I 3 (I 1 5).toNatClampNeg q1) fun I4 =>
    h_g (h_in (I4 1 5) 501) <|
    h_let (h_u I4 4 (I4 1 5).toNatClampNeg v1) fun I6 =>
    if (mRd_isLetter q1) = 0 then
      (if (mRd_isDigit q1) = 0 then
        mRd_addPart_169 v3x1 I6
      else
        mRd_addPart_L114 hF v1 v3x1 (0 : Int32) I6)
    else
      mRd_addPart_L58 hF v1 v3x1 (0 : Int32) I6)
  else
    some ((I 1 1), I)
set_option maxHeartbeats 4000000 in
theorem sRd_addPart (d : Nat) (hd : 8 + 1 ≤ d) (v1 : Int32) (I : hI) (J : hJ) (B : Bool × Bool) (q : Int32 × hI) (h : mRd_addPart v1 I = some q) : HMet hFT yX6_addPart cX6_addPart 5 (some .int) kdC d [.ref 1, .int v1] (I, J, RM B) (some (.int q.1)) (q.2, J, RM B) := by
  obtain ⟨d0, rfl, hd0⟩ := h_mono hd
  refine HMet.of (by decide) (Nat.le_of_ble_eq_true rfl) ?_
  show AW hFT cX6_addPart 5 (some .int) RX6 kdC (d0 + 1) [(0, .ref 1), (1, .int v1)] 0 [] (I, J, RM B) (some (.int q.1)) (q.2, J, RM B)
  unfold mRd_addPart at h
  refine a_aload_n dX6_addPart_0 rfl rfl ?_
  refine b_getI hK_6 kc_1 (i := 5) rfl fl_6_32 rfl dX6_addPart_1 ?_
  refine a_sipush dX6_addPart_4 sq_500 ?_
  refine a_callSN1 [] yy_X10_isOutside ml_6_28 (sC_isOutside _ (by omega) (I 1 5) (500 : Int32) I J B _ rfl) rfl rfl (Nat.le_of_ble_eq_true rfl) dX6_addPart_7 ?_
  refine a_if_eq (tgt := 18) dX6_addPart_10 (by decide) (fun c => ?_) (fun c => ?_)
  · replace h := h_iteT c h
    refine a_aload_n dX6_addPart_18 rfl rfl ?_
    refine a_iload_n dX6_addPart_19 rfl rfl ?_
    obtain ⟨q1, cq1, h⟩ := h_bindS h
    refine a_callV1 [] yy_X6_byteAt ml_6_35 kc_1 rfl (sRd_byteAt _ (by omega) v1 I J B q1 cq1) rfl rfl (Nat.le_of_ble_eq_true rfl) dX6_addPart_20 ?_
    refine a_istore_n (lv' := [(2, .int q1), (0, .ref 1), (1, .int v1)]) dX6_addPart_23 rfl (by decide) rfl ?_
    refine a_iload_n dX6_addPart_24 rfl rfl ?_
    refine a_iconst dX6_addPart_25 ic_1 ?_
    refine a_iadd dX6_addPart_26 ?_
    obtain ⟨v3x1, ev3x1, h⟩ := h_letS h
    refine a_topI ev3x1 ?_
    refine a_istore_n (lv' := [(3, .int v3x1), (2, .int q1), (0, .ref 1), (1, .int v1)]) dX6_addPart_27 rfl (by decide) rfl ?_
    refine a_aload_n dX6_addPart_28 rfl rfl ?_
    refine b_getR hK_6 kc_1 (i := 2) rfl fl_6_15 rfl (rm_1_2 B) dX6_addPart_29 ?_
    refine a_aload_n dX6_addPart_32 rfl rfl ?_
    refine b_getI hK_6 kc_1 (i := 5) rfl fl_6_32 rfl dX6_addPart_33 ?_
    refine a_iload_n dX6_addPart_36 rfl rfl ?_
    obtain ⟨g3, h⟩ := h_gS h
    refine b_iastore kc_3 (h_inV g3) dX6_addPart_37 ?_
    obtain ⟨I4, eI4, h⟩ := h_letS h
    refine a_memI eI4 ?_
    refine a_aload_n dX6_addPart_38 rfl rfl ?_
    refine b_getR hK_6 kc_1 (i := 3) rfl fl_6_18 rfl (rm_1_3 B) dX6_addPart_39 ?_
    refine a_aload_n dX6_addPart_42 rfl rfl ?_
    refine b_getI hK_6 kc_1 (i := 5) rfl fl_6_32 rfl dX6_addPart_43 ?_
    refine a_iload_n dX6_addPart_46 rfl rfl ?_
    obtain ⟨g5, h⟩ := h_gS h
    refine b_iastore kc_4 (h_inV g5) dX6_addPart_47 ?_
    obtain ⟨I6, eI6, h⟩ := h_letS h
    refine a_memI eI6 ?_
    refine a_iload_n dX6_addPart_48 rfl rfl ?_
    refine a_callS1 [] yy_X6_isLetter ml_6_87 (sRd_isLetter _ (by omega) q1 I6 J B _ rfl) rfl rfl (Nat.le_of_ble_eq_true rfl) dX6_addPart_49 ?_
    refine a_if_eq (tgt := 104) dX6_addPart_52 (by decide) (fun c => ?_) (fun c => ?_)
    · replace h := h_iteT c h
      refine a_iload_n dX6_addPart_104 rfl rfl ?_
      refine a_callS1 [] yy_X6_isDigit ml_6_94 (sRd_isDigit _ (by omega) q1 I6 J B _ rfl) rfl rfl (Nat.le_of_ble_eq_true rfl) dX6_addPart_105 ?_
      refine a_if_eq (tgt := 169) dX6_addPart_108 (by decide) (fun c => ?_) (fun c => ?_)
      · replace h := h_iteT c h
        refine a_sub (lv' := [(0, .ref 1), (3, .int v3x1)]) [2, 0] rfl ?_
        exact sRd_addPart_169 (d0 + 1) (by omega) v3x1 I6 J B _ h
      · replace h := h_iteF c h
        refine a_iconst dX6_addPart_111 ic_0 ?_
        refine a_istore (lv' := [(4, .int (0 : Int32)), (3, .int v3x1), (2, .int q1), (0, .ref 1), (1, .int v1)]) dX6_addPart_112 (by decide) rfl ?_
        refine a_sub (lv' := [(0, .ref 1), (1, .int v1), (3, .int v3x1), (4, .int (0 : Int32))]) [3, 4, 1, 0] rfl ?_
        exact sRd_addPart_L114 (d0 + 1) (by omega) hF v1 v3x1 (0 : Int32) I6 J B _ h
    · replace h := h_iteF c h
      refine a_iconst dX6_addPart_55 ic_0 ?_
      refine a_istore (lv' := [(4, .int (0 : Int32)), (3, .int v3x1), (2, .int q1), (0, .ref 1), (1, .int v1)]) dX6_addPart_56 (by decide) rfl ?_
      refine a_sub (lv' := [(0, .ref 1), (1, .int v1), (3, .int v3x1), (4, .int (0 : Int32))]) [3, 4, 1, 0] rfl ?_
      exact sRd_addPart_L58 (d0 + 1) (by omega) hF v1 v3x1 (0 : Int32) I6 J B _ h
  · replace h := h_iteF c h
    refine a_aload_n dX6_addPart_13 rfl rfl ?_
    refine b_getI hK_6 kc_1 (i := 1) rfl fl_6_24 rfl dX6_addPart_14 ?_
    cases h
    exact a_iret dX6_addPart_17
/-! CoinLoops$Reader.open()V -/
theorem dX6_open_0 : decode cX6_open 0 = .ok (.aload_n 0, 1) := by decide +kernel
theorem dX6_open_1 : decode cX6_open 1 = .ok (.iconst 0, 1) := by decide +kernel
theorem dX6_open_2 : decode cX6_open 2 = .ok (.putfield 32, 3) := by decide +kernel
theorem dX6_open_5 : decode cX6_open 5 = .ok (.iconst 0, 1) := by decide +kernel
theorem dX6_open_6 : decode cX6_open 6 = .ok (.istore_n 1, 1) := by decide +kernel
theorem dX6_open_7 : decode cX6_open 7 = .ok (.iconst 0, 1) := by decide +kernel
theorem dX6_open_8 : decode cX6_open 8 = .ok (.istore_n 2, 1) := by decide +kernel
theorem dX6_open_9 : decode cX6_open 9 = .ok (.iload_n 2, 1) := by decide +kernel
theorem dX6_open_10 : decode cX6_open 10 = .ok (.sipush 500, 3) := by decide +kernel
theorem dX6_open_13 : decode cX6_open 13 = .ok (.if_icmp .ge 39, 3) := by decide +kernel
theorem dX6_open_16 : decode cX6_open 16 = .ok (.iload_n 1, 1) := by decide +kernel
theorem dX6_open_17 : decode cX6_open 17 = .ok (.aload_n 0, 1) := by decide +kernel
theorem dX6_open_18 : decode cX6_open 18 = .ok (.getfield 24, 3) := by decide +kernel
theorem dX6_open_21 : decode cX6_open 21 = .ok (.if_icmp .ge 31, 3) := by decide +kernel
theorem dX6_open_24 : decode cX6_open 24 = .ok (.aload_n 0, 1) := by decide +kernel
theorem dX6_open_25 : decode cX6_open 25 = .ok (.iload_n 1, 1) := by decide +kernel
theorem dX6_open_26 : decode cX6_open 26 = .ok (.invokevirtual 35, 3) := by decide +kernel
theorem dX6_open_29 : decode cX6_open 29 = .ok (.bipush 32, 2) := by decide +kernel
theorem dX6_open_31 : decode cX6_open 31 = .ok (.if_icmp .ne 9, 3) := by decide +kernel
theorem dX6_open_34 : decode cX6_open 34 = .ok (.iinc 1 1, 3) := by decide +kernel
theorem dX6_open_37 : decode cX6_open 37 = .ok (.goto 9, 3) := by decide +kernel
theorem dX6_open_40 : decode cX6_open 40 = .ok (.aload_n 0, 1) := by decide +kernel
theorem dX6_open_41 : decode cX6_open 41 = .ok (.iload_n 1, 1) := by decide +kernel
theorem dX6_open_42 : decode cX6_open 42 = .ok (.invokevirtual 39, 3) := by decide +kernel
theorem dX6_open_45 : decode cX6_open 45 = .ok (.istore_n 1, 1) := by decide +kernel
theorem dX6_open_46 : decode cX6_open 46 = .ok (.iinc 2 1, 3) := by decide +kernel
theorem dX6_open_49 : decode cX6_open 49 = .ok (.goto (-40), 3) := by decide +kernel
theorem dX6_open_52 : decode cX6_open 52 = .ok (.aload_n 0, 1) := by decide +kernel
theorem dX6_open_53 : decode cX6_open 53 = .ok (.getfield 15, 3) := by decide +kernel
theorem dX6_open_56 : decode cX6_open 56 = .ok (.aload_n 0, 1) := by decide +kernel
theorem dX6_open_57 : decode cX6_open 57 = .ok (.getfield 32, 3) := by decide +kernel
theorem dX6_open_60 : decode cX6_open 60 = .ok (.iconst 0, 1) := by decide +kernel
theorem dX6_open_61 : decode cX6_open 61 = .ok (.iastore, 1) := by decide +kernel
theorem dX6_open_62 : decode cX6_open 62 = .ok (.aload_n 0, 1) := by decide +kernel
theorem dX6_open_63 : decode cX6_open 63 = .ok (.getfield 18, 3) := by decide +kernel
theorem dX6_open_66 : decode cX6_open 66 = .ok (.aload_n 0, 1) := by decide +kernel
theorem dX6_open_67 : decode cX6_open 67 = .ok (.getfield 32, 3) := by decide +kernel
theorem dX6_open_70 : decode cX6_open 70 = .ok (.aload_n 0, 1) := by decide +kernel
theorem dX6_open_71 : decode cX6_open 71 = .ok (.getfield 24, 3) := by decide +kernel
theorem dX6_open_74 : decode cX6_open 74 = .ok (.iastore, 1) := by decide +kernel
theorem dX6_open_75 : decode cX6_open 75 = .ok (.aload_n 0, 1) := by decide +kernel
theorem dX6_open_76 : decode cX6_open 76 = .ok (.iconst 0, 1) := by decide +kernel
theorem dX6_open_77 : decode cX6_open 77 = .ok (.putfield 42, 3) := by decide +kernel
theorem dX6_open_80 : decode cX6_open 80 = .ok (.aload_n 0, 1) := by decide +kernel
theorem dX6_open_81 : decode cX6_open 81 = .ok (.aload_n 0, 1) := by decide +kernel
theorem dX6_open_82 : decode cX6_open 82 = .ok (.getfield 15, 3) := by decide +kernel
theorem dX6_open_85 : decode cX6_open 85 = .ok (.iconst 0, 1) := by decide +kernel
theorem dX6_open_86 : decode cX6_open 86 = .ok (.iaload, 1) := by decide +kernel
theorem dX6_open_87 : decode cX6_open 87 = .ok (.putfield 45, 3) := by decide +kernel
theorem dX6_open_90 : decode cX6_open 90 = .ok (.aload_n 0, 1) := by decide +kernel
theorem dX6_open_91 : decode cX6_open 91 = .ok (.iconst (-1), 1) := by decide +kernel
theorem dX6_open_92 : decode cX6_open 92 = .ok (.putfield 48, 3) := by decide +kernel
theorem dX6_open_95 : decode cX6_open 95 = .ok (.return_, 1) := by decide +kernel
def mRd_open_52   (I : hI) : Option (hI) :=
  h_g (h_in (I 1 5) 501) <|
  h_let (h_u I 3 (I 1 5).toNatClampNeg (0 : Int32)) fun I2 =>
  h_g (h_in (I2 1 5) 501) <|
  h_let (h_u I2 4 (I2 1 5).toNatClampNeg (I2 1 1)) fun I4 =>
  h_let (h_u I4 1 6 (0 : Int32)) fun I5 =>
  h_g (h_in (0 : Int32) 501) <|
  h_let (h_u I5 1 7 (I5 3 (0 : Int32).toNatClampNeg)) fun I7 =>
  h_let (h_u I7 1 8 (-1 : Int32)) fun I8 =>
  some I8
set_option maxHeartbeats 4000000 in
theorem sRd_open_52 (d : Nat) (hd : 9 + 1 ≤ d)  (I : hI) (J : hJ) (B : Bool × Bool) (q : hI) (h : mRd_open_52 I = some q) : AW hFT cX6_open 3 none RX6 kdC d [(0, .ref 1)] 52 [] (I, J, RM B) none (q, J, RM B) := by
  obtain ⟨d0, rfl, hd0⟩ := h_mono hd
  unfold mRd_open_52 at h
  refine a_aload_n dX6_open_52 rfl rfl ?_
  refine b_getR hK_6 kc_1 (i := 2) rfl fl_6_15 rfl (rm_1_2 B) dX6_open_53 ?_
  refine a_aload_n dX6_open_56 rfl rfl ?_
  refine b_getI hK_6 kc_1 (i := 5) rfl fl_6_32 rfl dX6_open_57 ?_
  refine a_iconst dX6_open_60 ic_0 ?_
  obtain ⟨g1, h⟩ := h_gS h
  refine b_iastore kc_3 (h_inV g1) dX6_open_61 ?_
  obtain ⟨I2, eI2, h⟩ := h_letS h
  refine a_memI eI2 ?_
  refine a_aload_n dX6_open_62 rfl rfl ?_
  refine b_getR hK_6 kc_1 (i := 3) rfl fl_6_18 rfl (rm_1_3 B) dX6_open_63 ?_
  refine a_aload_n dX6_open_66 rfl rfl ?_
  refine b_getI hK_6 kc_1 (i := 5) rfl fl_6_32 rfl dX6_open_67 ?_
  refine a_aload_n dX6_open_70 rfl rfl ?_
  refine b_getI hK_6 kc_1 (i := 1) rfl fl_6_24 rfl dX6_open_71 ?_
  obtain ⟨g3, h⟩ := h_gS h
  refine b_iastore kc_4 (h_inV g3) dX6_open_74 ?_
  obtain ⟨I4, eI4, h⟩ := h_letS h
  refine a_memI eI4 ?_
  refine a_aload_n dX6_open_75 rfl rfl ?_
  refine a_iconst dX6_open_76 ic_0 ?_
  refine b_putI hK_6 kc_1 (i := 6) rfl fl_6_42 rfl rfl (h_NI _) dX6_open_77 ?_
  obtain ⟨I5, eI5, h⟩ := h_letS h
  refine a_memI eI5 ?_
  refine a_aload_n dX6_open_80 rfl rfl ?_
  refine a_aload_n dX6_open_81 rfl rfl ?_
  refine b_getR hK_6 kc_1 (i := 2) rfl fl_6_15 rfl (rm_1_2 B) dX6_open_82 ?_
  refine a_iconst dX6_open_85 ic_0 ?_
  obtain ⟨g6, h⟩ := h_gS h
  refine b_iaload kc_3 (h_inV g6) dX6_open_86 ?_
  refine b_putI hK_6 kc_1 (i := 7) rfl fl_6_45 rfl rfl (h_NI _) dX6_open_87 ?_
  obtain ⟨I7, eI7, h⟩ := h_letS h
  refine a_memI eI7 ?_
  refine a_aload_n dX6_open_90 rfl rfl ?_
  refine a_iconst dX6_open_91 ic_m1 ?_
  refine b_putI hK_6 kc_1 (i := 8) rfl fl_6_48 rfl rfl (h_NI _) dX6_open_92 ?_
  obtain ⟨I8, eI8, h⟩ := h_letS h
  refine a_memI eI8 ?_
  cases h
  exact a_vret dX6_open_95
def mRd_open_B9 (k9 : Int32 → Int32 → hI → Option (hI)) (v1 : Int32) (v2 : Int32) (I : hI) : Option (hI) :=
  if (500 : Int32) ≤ v2 then
    mRd_open_52 I
  else
    (if (I 1 1) ≤ v1 then
      mRd_open_52 I
    else
      ((mRd_byteAt v1 I).bind fun q1 =>
      if q1 = (32 : Int32) then
        k9 (v1 + (1 : Int32)) (v2 + (1 : Int32)) I
      else
        ((mRd_addPart v1 I).bind fun q2 =>
        h_let q2.1 fun v1x2 =>
        k9 v1x2 (v2 + (1 : Int32)) q2.2)))
set_option maxHeartbeats 4000000 in
theorem sRd_open_B9 (d : Nat) (hd : 9 + 1 ≤ d) (k9 : Int32 → Int32 → hI → Option (hI)) (hk9 : ∀ (v1 : Int32) (v2 : Int32) (I : hI) (J : hJ) (B : Bool × Bool) (q : hI), k9 v1 v2 I = some q → AW hFT cX6_open 3 none RX6 kdC d [(0, .ref 1), (1, .int v1), (2, .int v2)] 9 [] (I, J, RM B) none (q, J, RM B)) (v1 : Int32) (v2 : Int32) (I : hI) (J : hJ) (B : Bool × Bool) (q : hI) (h : mRd_open_B9 k9 v1 v2 I = some q) : AW hFT cX6_open 3 none RX6 kdC d [(0, .ref 1), (1, .int v1), (2, .int v2)] 9 [] (I, J, RM B) none (q, J, RM B) := by
  obtain ⟨d0, rfl, hd0⟩ := h_mono hd
  unfold mRd_open_B9 at h
  refine a_iload_n dX6_open_9 rfl rfl ?_
  refine a_sipush dX6_open_10 sq_500 ?_
  refine a_icmp_ge (tgt := 52) dX6_open_13 (by decide) (fun c => ?_) (fun c => ?_)
  · replace h := h_iteT c h
    refine a_sub (lv' := [(0, .ref 1)]) [0] rfl ?_
    exact sRd_open_52 (d0 + 1) (by omega)  I J B _ h
  · replace h := h_iteF c h
    refine a_iload_n dX6_open_16 rfl rfl ?_
    refine a_aload_n dX6_open_17 rfl rfl ?_
    refine b_getI hK_6 kc_1 (i := 1) rfl fl_6_24 rfl dX6_open_18 ?_
    refine a_icmp_ge (tgt := 52) dX6_open_21 (by decide) (fun c => ?_) (fun c => ?_)
    · replace h := h_iteT c h
      refine a_sub (lv' := [(0, .ref 1)]) [0] rfl ?_
      exact sRd_open_52 (d0 + 1) (by omega)  I J B _ h
    · replace h := h_iteF c h
      refine a_aload_n dX6_open_24 rfl rfl ?_
      refine a_iload_n dX6_open_25 rfl rfl ?_
      obtain ⟨q1, cq1, h⟩ := h_bindS h
      refine a_callV1 [] yy_X6_byteAt ml_6_35 kc_1 rfl (sRd_byteAt _ (by omega) v1 I J B q1 cq1) rfl rfl (Nat.le_of_ble_eq_true rfl) dX6_open_26 ?_
      refine a_bipush dX6_open_29 bp_32 ?_
      refine a_icmp_ne (tgt := 40) dX6_open_31 (by decide) (fun c => ?_) (fun c => ?_)
      · replace h := h_iteF c h
        refine a_aload_n dX6_open_40 rfl rfl ?_
        refine a_iload_n dX6_open_41 rfl rfl ?_
        obtain ⟨q2, cq2, h⟩ := h_bindS h
        refine a_callV1 [] yy_X6_addPart ml_6_39 kc_1 rfl (sRd_addPart _ (by omega) v1 I J B q2 cq2) rfl rfl (Nat.le_of_ble_eq_true rfl) dX6_open_42 ?_
        obtain ⟨v1x2, ev1x2, h⟩ := h_letS h
        refine a_topI ev1x2 ?_
        refine a_istore_n (lv' := [(1, .int v1x2), (0, .ref 1), (2, .int v2)]) dX6_open_45 rfl (by decide) rfl ?_
        refine b_iinc (lv' := [(2, .int (v2 + (1 : Int32))), (1, .int v1x2), (0, .ref 1)]) dX6_open_46 rfl ic_1 (by decide) rfl ?_
        refine a_goto (tgt := 9) dX6_open_49 (by decide) ?_
        refine a_sub (lv' := [(0, .ref 1), (1, .int v1x2), (2, .int (v2 + (1 : Int32)))]) [2, 1, 0] rfl ?_
        exact hk9 v1x2 (v2 + (1 : Int32)) q2.2 J B _ h
      · replace h := h_iteT c h
        refine b_iinc (lv' := [(1, .int (v1 + (1 : Int32))), (0, .ref 1), (2, .int v2)]) dX6_open_34 rfl ic_1 (by decide) rfl ?_
        refine a_goto (tgt := 46) dX6_open_37 (by decide) ?_
        refine b_iinc (lv' := [(2, .int (v2 + (1 : Int32))), (1, .int (v1 + (1 : Int32))), (0, .ref 1)]) dX6_open_46 rfl ic_1 (by decide) rfl ?_
        refine a_goto (tgt := 9) dX6_open_49 (by decide) ?_
        refine a_sub (lv' := [(0, .ref 1), (1, .int (v1 + (1 : Int32))), (2, .int (v2 + (1 : Int32)))]) [2, 1, 0] rfl ?_
        exact hk9 (v1 + (1 : Int32)) (v2 + (1 : Int32)) I J B _ h
def mRd_open_L9  : Nat → Int32 → Int32 → hI → Option (hI)
  | 0 => fun _ _ _ => none
  | n + 1 => mRd_open_B9 (mRd_open_L9 n)
theorem sRd_open_L9 (d : Nat) (hd : 9 + 1 ≤ d) : ∀ (n : Nat) (v1 : Int32) (v2 : Int32) (I : hI) (J : hJ) (B : Bool × Bool) (q : hI) (h : mRd_open_L9 n v1 v2 I = some q), AW hFT cX6_open 3 none RX6 kdC d [(0, .ref 1), (1, .int v1), (2, .int v2)] 9 [] (I, J, RM B) none (q, J, RM B)
  | 0, _, _, _, _, _, q, h => by cases h
  | n + 1, v1, v2, I, J, B, q, h => sRd_open_B9 d hd (mRd_open_L9 n) (sRd_open_L9 d hd n) v1 v2 I J B q h
def mRd_open   (I : hI) : Option (hI) :=
  h_let (h_u I 1 5 (0 : Int32)) fun I1 =>
  mRd_open_L9 hF (0 : Int32) (0 : Int32) I1
set_option maxHeartbeats 4000000 in
theorem sRd_open (d : Nat) (hd : 9 + 1 ≤ d)  (I : hI) (J : hJ) (B : Bool × Bool) (q : hI) (h : mRd_open I = some q) : HMet hFT yX6_open cX6_open 3 none kdC d [.ref 1] (I, J, RM B) none (q, J, RM B) := by
  obtain ⟨d0, rfl, hd0⟩ := h_mono hd
  refine HMet.of (by decide) (Nat.le_of_ble_eq_true rfl) ?_
  show AW hFT cX6_open 3 none RX6 kdC (d0 + 1) [(0, .ref 1)] 0 [] (I, J, RM B) none (q, J, RM B)
  unfold mRd_open at h
  refine a_aload_n dX6_open_0 rfl rfl ?_
  refine a_iconst dX6_open_1 ic_0 ?_
  refine b_putI hK_6 kc_1 (i := 5) rfl fl_6_32 rfl rfl (h_NI _) dX6_open_2 ?_
  obtain ⟨I1, eI1, h⟩ := h_letS h
  refine a_memI eI1 ?_
  refine a_iconst dX6_open_5 ic_0 ?_
  refine a_istore_n (lv' := [(1, .int (0 : Int32)), (0, .ref 1)]) dX6_open_6 rfl (by decide) rfl ?_
  refine a_iconst dX6_open_7 ic_0 ?_
  refine a_istore_n (lv' := [(2, .int (0 : Int32)), (1, .int (0 : Int32)), (0, .ref 1)]) dX6_open_8 rfl (by decide) rfl ?_
  refine a_sub (lv' := [(0, .ref 1), (1, .int (0 : Int32)), (2, .int (0 : Int32))]) [2, 1, 0] rfl ?_
  exact sRd_open_L9 (d0 + 1) (by omega) hF (0 : Int32) (0 : Int32) I1 J B _ h
