/-! CoinLoops$LoopText.clear()V -/
theorem dX4_clear_0 : decode cX4_clear 0 = .ok (.aload_n 0, 1) := by decide +kernel
theorem dX4_clear_1 : decode cX4_clear 1 = .ok (.getfield 12, 3) := by decide +kernel
theorem dX4_clear_4 : decode cX4_clear 4 = .ok (.iconst 0, 1) := by decide +kernel
theorem dX4_clear_5 : decode cX4_clear 5 = .ok (.putfield 63, 3) := by decide +kernel
theorem dX4_clear_8 : decode cX4_clear 8 = .ok (.aload_n 0, 1) := by decide +kernel
theorem dX4_clear_9 : decode cX4_clear 9 = .ok (.iconst 0, 1) := by decide +kernel
theorem dX4_clear_10 : decode cX4_clear 10 = .ok (.putfield 77, 3) := by decide +kernel
theorem dX4_clear_13 : decode cX4_clear 13 = .ok (.aload_n 0, 1) := by decide +kernel
theorem dX4_clear_14 : decode cX4_clear 14 = .ok (.iconst 0, 1) := by decide +kernel
theorem dX4_clear_15 : decode cX4_clear 15 = .ok (.putfield 45, 3) := by decide +kernel
theorem dX4_clear_18 : decode cX4_clear 18 = .ok (.aload_n 0, 1) := by decide +kernel
theorem dX4_clear_19 : decode cX4_clear 19 = .ok (.iconst 0, 1) := by decide +kernel
theorem dX4_clear_20 : decode cX4_clear 20 = .ok (.putfield 53, 3) := by decide +kernel
theorem dX4_clear_23 : decode cX4_clear 23 = .ok (.aload_n 0, 1) := by decide +kernel
theorem dX4_clear_24 : decode cX4_clear 24 = .ok (.iconst 0, 1) := by decide +kernel
theorem dX4_clear_25 : decode cX4_clear 25 = .ok (.putfield 66, 3) := by decide +kernel
theorem dX4_clear_28 : decode cX4_clear 28 = .ok (.aload_n 0, 1) := by decide +kernel
theorem dX4_clear_29 : decode cX4_clear 29 = .ok (.iconst 0, 1) := by decide +kernel
theorem dX4_clear_30 : decode cX4_clear 30 = .ok (.putfield 78, 3) := by decide +kernel
theorem dX4_clear_33 : decode cX4_clear 33 = .ok (.aload_n 0, 1) := by decide +kernel
theorem dX4_clear_34 : decode cX4_clear 34 = .ok (.iconst 0, 1) := by decide +kernel
theorem dX4_clear_35 : decode cX4_clear 35 = .ok (.putfield 81, 3) := by decide +kernel
theorem dX4_clear_38 : decode cX4_clear 38 = .ok (.aload_n 0, 1) := by decide +kernel
theorem dX4_clear_39 : decode cX4_clear 39 = .ok (.iconst 0, 1) := by decide +kernel
theorem dX4_clear_40 : decode cX4_clear 40 = .ok (.putfield 84, 3) := by decide +kernel
theorem dX4_clear_43 : decode cX4_clear 43 = .ok (.aload_n 0, 1) := by decide +kernel
theorem dX4_clear_44 : decode cX4_clear 44 = .ok (.iconst 0, 1) := by decide +kernel
theorem dX4_clear_45 : decode cX4_clear 45 = .ok (.putfield 87, 3) := by decide +kernel
theorem dX4_clear_48 : decode cX4_clear 48 = .ok (.return_, 1) := by decide +kernel
def mLt_clear  (t0 : Nat) (I : hI) : hI :=
  h_let (h_u I (t0 + 1) 5 (0 : Int32)) fun I1 =>
  h_let (h_u I1 t0 3 (0 : Int32)) fun I2 =>
  h_let (h_u I2 t0 4 (0 : Int32)) fun I3 =>
  h_let (h_u I3 t0 5 (0 : Int32)) fun I4 =>
  h_let (h_u I4 t0 6 (0 : Int32)) fun I5 =>
  h_let (h_u I5 t0 7 (0 : Int32)) fun I6 =>
  h_let (h_u I6 t0 8 (0 : Int32)) fun I7 =>
  h_let (h_u I7 t0 9 (0 : Int32)) fun I8 =>
  h_let (h_u I8 t0 10 (0 : Int32)) fun I9 =>
  I9
set_option maxHeartbeats 4000000 in
theorem sLt_clear (d : Nat) (hd : 0 ≤ d) (t0 : Nat) (ht0 : h_LT t0) (I : hI) (J : hJ) (B : Bool × Bool) (q : hI) (h : mLt_clear t0 I = q) : HMet hFT yX4_clear cX4_clear 1 none kdC d [.ref t0] (I, J, RM B) none (q, J, RM B) := by
  refine HMet.of (by decide) (Nat.le_of_ble_eq_true rfl) ?_
  show AW hFT cX4_clear 1 none RX4 kdC d [(0, .ref t0)] 0 [] (I, J, RM B) none (q, J, RM B)
  unfold mLt_clear at h
  refine a_aload_n dX4_clear_0 rfl rfl ?_
  refine b_getR hK_4 (k_LT ht0) (i := 0) rfl fl_4_12 rfl (rm_LT_0 B ht0) dX4_clear_1 ?_
  refine a_iconst dX4_clear_4 ic_0 ?_
  refine b_putI hK_0 (k_CD (cd_LT ht0)) (i := 5) rfl fl_4_63 rfl rfl (h_NI _) dX4_clear_5 ?_
  obtain ⟨I1, eI1, h⟩ := h_letS h
  refine a_memI eI1 ?_
  refine a_aload_n dX4_clear_8 rfl rfl ?_
  refine a_iconst dX4_clear_9 ic_0 ?_
  refine b_putI hK_4 (k_LT ht0) (i := 3) rfl fl_4_77 rfl rfl (h_NI _) dX4_clear_10 ?_
  obtain ⟨I2, eI2, h⟩ := h_letS h
  refine a_memI eI2 ?_
  refine a_aload_n dX4_clear_13 rfl rfl ?_
  refine a_iconst dX4_clear_14 ic_0 ?_
  refine b_putI hK_4 (k_LT ht0) (i := 4) rfl fl_4_45 rfl rfl (h_NI _) dX4_clear_15 ?_
  obtain ⟨I3, eI3, h⟩ := h_letS h
  refine a_memI eI3 ?_
  refine a_aload_n dX4_clear_18 rfl rfl ?_
  refine a_iconst dX4_clear_19 ic_0 ?_
  refine b_putI hK_4 (k_LT ht0) (i := 5) rfl fl_4_53 rfl rfl (h_NI _) dX4_clear_20 ?_
  obtain ⟨I4, eI4, h⟩ := h_letS h
  refine a_memI eI4 ?_
  refine a_aload_n dX4_clear_23 rfl rfl ?_
  refine a_iconst dX4_clear_24 ic_0 ?_
  refine b_putI hK_4 (k_LT ht0) (i := 6) rfl fl_4_66 rfl rfl (h_NI _) dX4_clear_25 ?_
  obtain ⟨I5, eI5, h⟩ := h_letS h
  refine a_memI eI5 ?_
  refine a_aload_n dX4_clear_28 rfl rfl ?_
  refine a_iconst dX4_clear_29 ic_0 ?_
  refine b_putI hK_4 (k_LT ht0) (i := 7) rfl fl_4_78 rfl rfl (h_NI _) dX4_clear_30 ?_
  obtain ⟨I6, eI6, h⟩ := h_letS h
  refine a_memI eI6 ?_
  refine a_aload_n dX4_clear_33 rfl rfl ?_
  refine a_iconst dX4_clear_34 ic_0 ?_
  refine b_putI hK_4 (k_LT ht0) (i := 8) rfl fl_4_81 rfl rfl (h_NI _) dX4_clear_35 ?_
  obtain ⟨I7, eI7, h⟩ := h_letS h
  refine a_memI eI7 ?_
  refine a_aload_n dX4_clear_38 rfl rfl ?_
  refine a_iconst dX4_clear_39 ic_0 ?_
  refine b_putI hK_4 (k_LT ht0) (i := 9) rfl fl_4_84 rfl rfl (h_NI _) dX4_clear_40 ?_
  obtain ⟨I8, eI8, h⟩ := h_letS h
  refine a_memI eI8 ?_
  refine a_aload_n dX4_clear_43 rfl rfl ?_
  refine a_iconst dX4_clear_44 ic_0 ?_
  refine b_putI hK_4 (k_LT ht0) (i := 10) rfl fl_4_87 rfl rfl (h_NI _) dX4_clear_45 ?_
  obtain ⟨I9, eI9, h⟩ := h_letS h
  refine a_memI eI9 ?_
  cases h
  exact a_vret dX4_clear_48
/-! CoinLoops$LoopText.canBegin(II)Z -/
theorem dX4_canBegin_0 : decode cX4_canBegin 0 = .ok (.aload_n 0, 1) := by decide +kernel
theorem dX4_canBegin_1 : decode cX4_canBegin 1 = .ok (.getfield 78, 3) := by decide +kernel
theorem dX4_canBegin_4 : decode cX4_canBegin 4 = .ok (.bipush 24, 2) := by decide +kernel
theorem dX4_canBegin_6 : decode cX4_canBegin 6 = .ok (.if_icmp .lt 5, 3) := by decide +kernel
theorem dX4_canBegin_9 : decode cX4_canBegin 9 = .ok (.iconst 0, 1) := by decide +kernel
theorem dX4_canBegin_10 : decode cX4_canBegin 10 = .ok (.ireturn, 1) := by decide +kernel
theorem dX4_canBegin_11 : decode cX4_canBegin 11 = .ok (.iload_n 1, 1) := by decide +kernel
theorem dX4_canBegin_12 : decode cX4_canBegin 12 = .ok (.tableswitch 75 258 265 #[48, 48, 75, 48, 50, 61, 48, 48], 48) := by decide +kernel
theorem dX4_canBegin_60 : decode cX4_canBegin 60 = .ok (.iconst 1, 1) := by decide +kernel
theorem dX4_canBegin_61 : decode cX4_canBegin 61 = .ok (.ireturn, 1) := by decide +kernel
theorem dX4_canBegin_62 : decode cX4_canBegin 62 = .ok (.iload_n 2, 1) := by decide +kernel
theorem dX4_canBegin_63 : decode cX4_canBegin 63 = .ok (.iconst 2, 1) := by decide +kernel
theorem dX4_canBegin_64 : decode cX4_canBegin 64 = .ok (.if_icmp .ge 7, 3) := by decide +kernel
theorem dX4_canBegin_67 : decode cX4_canBegin 67 = .ok (.iconst 1, 1) := by decide +kernel
theorem dX4_canBegin_68 : decode cX4_canBegin 68 = .ok (.goto 4, 3) := by decide +kernel
theorem dX4_canBegin_71 : decode cX4_canBegin 71 = .ok (.iconst 0, 1) := by decide +kernel
theorem dX4_canBegin_72 : decode cX4_canBegin 72 = .ok (.ireturn, 1) := by decide +kernel
theorem dX4_canBegin_73 : decode cX4_canBegin 73 = .ok (.aload_n 0, 1) := by decide +kernel
theorem dX4_canBegin_74 : decode cX4_canBegin 74 = .ok (.getfield 81, 3) := by decide +kernel
theorem dX4_canBegin_77 : decode cX4_canBegin 77 = .ok (.iconst 3, 1) := by decide +kernel
theorem dX4_canBegin_78 : decode cX4_canBegin 78 = .ok (.if_icmp .ge 7, 3) := by decide +kernel
theorem dX4_canBegin_81 : decode cX4_canBegin 81 = .ok (.iconst 1, 1) := by decide +kernel
theorem dX4_canBegin_82 : decode cX4_canBegin 82 = .ok (.goto 4, 3) := by decide +kernel
theorem dX4_canBegin_85 : decode cX4_canBegin 85 = .ok (.iconst 0, 1) := by decide +kernel
theorem dX4_canBegin_86 : decode cX4_canBegin 86 = .ok (.ireturn, 1) := by decide +kernel
theorem dX4_canBegin_87 : decode cX4_canBegin 87 = .ok (.iconst 0, 1) := by decide +kernel
theorem dX4_canBegin_88 : decode cX4_canBegin 88 = .ok (.ireturn, 1) := by decide +kernel
def mLt_canBegin  (t0 : Nat) (v1 : Int32) (v2 : Int32) (I : hI) : Int32 :=
  if (I t0 7) < (24 : Int32) then
    (if v1 = 258 then
      (1 : Int32)
    else
      (if v1 = 259 then
        (1 : Int32)
      else
        (if v1 = 260 then
          (0 : Int32)
        else
          (if v1 = 261 then
            (1 : Int32)
          else
            (if v1 = 262 then
              (if (2 : Int32) ≤ v2 then
                (0 : Int32)
              else
                (1 : Int32))
            else
              (if v1 = 263 then
                (if (3 : Int32) ≤ (I t0 8) then
                  (0 : Int32)
                else
                  (1 : Int32))
              else
                (if v1 = 264 then
                  (1 : Int32)
                else
                  (if v1 = 265 then
                    (1 : Int32)
                  else
                    (0 : Int32)))))))))
  else
    (0 : Int32)
set_option maxHeartbeats 4000000 in
theorem sLt_canBegin (d : Nat) (hd : 0 ≤ d) (t0 : Nat) (ht0 : h_LT t0) (v1 : Int32) (v2 : Int32) (I : hI) (J : hJ) (B : Bool × Bool) (q : Int32) (h : mLt_canBegin t0 v1 v2 I = q) : HMet hFT yX4_canBegin cX4_canBegin 3 (some .boolean) kdC d [.ref t0, .int v1, .int v2] (I, J, RM B) (some (.int q)) (I, J, RM B) := by
  refine HMet.of (by decide) (Nat.le_of_ble_eq_true rfl) ?_
  show AW hFT cX4_canBegin 3 (some .boolean) RX4 kdC d [(0, .ref t0), (1, .int v1), (2, .int v2)] 0 [] (I, J, RM B) (some (.int q)) (I, J, RM B)
  unfold mLt_canBegin at h
  refine a_aload_n dX4_canBegin_0 rfl rfl ?_
  refine b_getI hK_4 (k_LT ht0) (i := 7) rfl fl_4_78 rfl dX4_canBegin_1 ?_
  refine a_bipush dX4_canBegin_4 bp_24 ?_
  refine a_icmp_lt (tgt := 11) dX4_canBegin_6 (by decide) (fun c => ?_) (fun c => ?_)
  · replace h := h_iteT c h
    refine a_iload_n dX4_canBegin_11 rfl rfl ?_
    by_cases n258 : v1 = 258
    · replace h := h_iteT n258 h
      refine a_topI n258 ?_
      refine a_tableIn (tgt := 60) (off := 48) dX4_canBegin_12 (by decide) (by decide) (by decide) (by decide) ?_
      refine a_iconst dX4_canBegin_60 ic_1 ?_
      cases h
      exact a_zret (h_Z1.1) dX4_canBegin_61
    · replace h := h_iteF n258 h
      by_cases n259 : v1 = 259
      · replace h := h_iteT n259 h
        refine a_topI n259 ?_
        refine a_tableIn (tgt := 60) (off := 48) dX4_canBegin_12 (by decide) (by decide) (by decide) (by decide) ?_
        refine a_iconst dX4_canBegin_60 ic_1 ?_
        cases h
        exact a_zret (h_Z1.1) dX4_canBegin_61
      · replace h := h_iteF n259 h
        by_cases n260 : v1 = 260
        · replace h := h_iteT n260 h
          refine a_topI n260 ?_
          refine a_tableIn (tgt := 87) (off := 75) dX4_canBegin_12 (by decide) (by decide) (by decide) (by decide) ?_
          refine a_iconst dX4_canBegin_87 ic_0 ?_
          cases h
          exact a_zret (h_Z0.1) dX4_canBegin_88
        · replace h := h_iteF n260 h
          by_cases n261 : v1 = 261
          · replace h := h_iteT n261 h
            refine a_topI n261 ?_
            refine a_tableIn (tgt := 60) (off := 48) dX4_canBegin_12 (by decide) (by decide) (by decide) (by decide) ?_
            refine a_iconst dX4_canBegin_60 ic_1 ?_
            cases h
            exact a_zret (h_Z1.1) dX4_canBegin_61
          · replace h := h_iteF n261 h
            by_cases n262 : v1 = 262
            · replace h := h_iteT n262 h
              refine a_topI n262 ?_
              refine a_tableIn (tgt := 62) (off := 50) dX4_canBegin_12 (by decide) (by decide) (by decide) (by decide) ?_
              refine a_iload_n dX4_canBegin_62 rfl rfl ?_
              refine a_iconst dX4_canBegin_63 ic_2 ?_
              refine a_icmp_ge (tgt := 71) dX4_canBegin_64 (by decide) (fun c => ?_) (fun c => ?_)
              · replace h := h_iteT c h
                refine a_iconst dX4_canBegin_71 ic_0 ?_
                cases h
                exact a_zret (h_Z0.1) dX4_canBegin_72
              · replace h := h_iteF c h
                refine a_iconst dX4_canBegin_67 ic_1 ?_
                refine a_goto (tgt := 72) dX4_canBegin_68 (by decide) ?_
                cases h
                exact a_zret (h_Z1.1) dX4_canBegin_72
            · replace h := h_iteF n262 h
              by_cases n263 : v1 = 263
              · replace h := h_iteT n263 h
                refine a_topI n263 ?_
                refine a_tableIn (tgt := 73) (off := 61) dX4_canBegin_12 (by decide) (by decide) (by decide) (by decide) ?_
                refine a_aload_n dX4_canBegin_73 rfl rfl ?_
                refine b_getI hK_4 (k_LT ht0) (i := 8) rfl fl_4_81 rfl dX4_canBegin_74 ?_
                refine a_iconst dX4_canBegin_77 ic_3 ?_
                refine a_icmp_ge (tgt := 85) dX4_canBegin_78 (by decide) (fun c => ?_) (fun c => ?_)
                · replace h := h_iteT c h
                  refine a_iconst dX4_canBegin_85 ic_0 ?_
                  cases h
                  exact a_zret (h_Z0.1) dX4_canBegin_86
                · replace h := h_iteF c h
                  refine a_iconst dX4_canBegin_81 ic_1 ?_
                  refine a_goto (tgt := 86) dX4_canBegin_82 (by decide) ?_
                  cases h
                  exact a_zret (h_Z1.1) dX4_canBegin_86
              · replace h := h_iteF n263 h
                by_cases n264 : v1 = 264
                · replace h := h_iteT n264 h
                  refine a_topI n264 ?_
                  refine a_tableIn (tgt := 60) (off := 48) dX4_canBegin_12 (by decide) (by decide) (by decide) (by decide) ?_
                  refine a_iconst dX4_canBegin_60 ic_1 ?_
                  cases h
                  exact a_zret (h_Z1.1) dX4_canBegin_61
                · replace h := h_iteF n264 h
                  by_cases n265 : v1 = 265
                  · replace h := h_iteT n265 h
                    refine a_topI n265 ?_
                    refine a_tableIn (tgt := 60) (off := 48) dX4_canBegin_12 (by decide) (by decide) (by decide) (by decide) ?_
                    refine a_iconst dX4_canBegin_60 ic_1 ?_
                    cases h
                    exact a_zret (h_Z1.1) dX4_canBegin_61
                  · replace h := h_iteF n265 h
                    refine a_tableOut (tgt := 87) dX4_canBegin_12 (h_tb258_8 n258 n259 n260 n261 n262 n263 n264 n265) (by decide) ?_
                    refine a_iconst dX4_canBegin_87 ic_0 ?_
                    cases h
                    exact a_zret (h_Z0.1) dX4_canBegin_88
  · replace h := h_iteF c h
    refine a_iconst dX4_canBegin_9 ic_0 ?_
    cases h
    exact a_zret (h_Z0.1) dX4_canBegin_10
/-! CoinLoops$LoopText.add(I)LCoinLoops$Step; -/
theorem dX4_add_0 : decode cX4_add 0 = .ok (.aload_n 0, 1) := by decide +kernel
theorem dX4_add_1 : decode cX4_add 1 = .ok (.getfield 77, 3) := by decide +kernel
theorem dX4_add_4 : decode cX4_add 4 = .ok (.bipush 47, 2) := by decide +kernel
theorem dX4_add_6 : decode cX4_add 6 = .ok (.invokestatic 153, 3) := by decide +kernel
theorem dX4_add_9 : decode cX4_add 9 = .ok (.istore_n 2, 1) := by decide +kernel
theorem dX4_add_10 : decode cX4_add 10 = .ok (.aload_n 0, 1) := by decide +kernel
theorem dX4_add_11 : decode cX4_add 11 = .ok (.getfield 20, 3) := by decide +kernel
theorem dX4_add_14 : decode cX4_add 14 = .ok (.iload_n 2, 1) := by decide +kernel
theorem dX4_add_15 : decode cX4_add 15 = .ok (.aaload, 1) := by decide +kernel
theorem dX4_add_16 : decode cX4_add 16 = .ok (.astore_n 3, 1) := by decide +kernel
theorem dX4_add_17 : decode cX4_add 17 = .ok (.aload_n 3, 1) := by decide +kernel
theorem dX4_add_18 : decode cX4_add 18 = .ok (.iload_n 1, 1) := by decide +kernel
theorem dX4_add_19 : decode cX4_add 19 = .ok (.putfield 156, 3) := by decide +kernel
theorem dX4_add_22 : decode cX4_add 22 = .ok (.aload_n 0, 1) := by decide +kernel
theorem dX4_add_23 : decode cX4_add 23 = .ok (.iload_n 2, 1) := by decide +kernel
theorem dX4_add_24 : decode cX4_add 24 = .ok (.iconst 1, 1) := by decide +kernel
theorem dX4_add_25 : decode cX4_add 25 = .ok (.iadd, 1) := by decide +kernel
theorem dX4_add_26 : decode cX4_add 26 = .ok (.putfield 77, 3) := by decide +kernel
theorem dX4_add_29 : decode cX4_add 29 = .ok (.aload_n 3, 1) := by decide +kernel
theorem dX4_add_30 : decode cX4_add 30 = .ok (.areturn, 1) := by decide +kernel
def mLt_add  (t0 : Nat) (v1 : Int32) (I : hI) : Option (Nat × hI) :=
  h_let (if (47 : Int32) < (I t0 3) then (47 : Int32) else (I t0 3)) fun v2x0 =>
  h_g (h_in v2x0 48) <|
  h_let (h_u I (t0 + 9 + v2x0.toNatClampNeg) 0 v1) fun I3 =>
  h_let (h_u I3 t0 3 (v2x0 + (1 : Int32))) fun I4 =>
  some ((t0 + 9 + v2x0.toNatClampNeg), I4)
set_option maxHeartbeats 4000000 in
theorem sLt_add (d : Nat) (hd : 0 + 1 ≤ d) (t0 : Nat) (ht0 : h_LT t0) (v1 : Int32) (I : hI) (J : hJ) (B : Bool × Bool) (q : Nat × hI) (h : mLt_add t0 v1 I = some q) : HMet hFT yX4_add cX4_add 4 (some (.object "CoinLoops$Step")) kdC d [.ref t0, .int v1] (I, J, RM B) (some (.ref q.1)) (q.2, J, RM B) := by
  obtain ⟨d0, rfl, hd0⟩ := h_mono hd
  refine HMet.of (by decide) (Nat.le_of_ble_eq_true rfl) ?_
  show AW hFT cX4_add 4 (some (.object "CoinLoops$Step")) RX4 kdC (d0 + 1) [(0, .ref t0), (1, .int v1)] 0 [] (I, J, RM B) (some (.ref q.1)) (q.2, J, RM B)
  unfold mLt_add at h
  refine a_aload_n dX4_add_0 rfl rfl ?_
  refine b_getI hK_4 (k_LT ht0) (i := 3) rfl fl_4_77 rfl dX4_add_1 ?_
  refine a_bipush dX4_add_4 bp_47 ?_
  refine a_mmin w_mmin ml_4_153 (Nat.le_of_ble_eq_true rfl) dX4_add_6 ?_
  obtain ⟨v2x0, ev2x0, h⟩ := h_letS h
  refine a_topI ev2x0 ?_
  refine a_istore_n (lv' := [(2, .int v2x0), (0, .ref t0), (1, .int v1)]) dX4_add_9 rfl (by decide) rfl ?_
  refine a_aload_n dX4_add_10 rfl rfl ?_
  refine b_getR hK_4 (k_LT ht0) (i := 1) rfl fl_4_20 rfl (rm_LT_1 B ht0) dX4_add_11 ?_
  refine a_iload_n dX4_add_14 rfl rfl ?_
  obtain ⟨g2, h⟩ := h_gS h
  refine b_aaload3 (k_LT7 ht0) (h_inV g2) (rm_SA B ht0 (h_in_lt (h_inV g2))) dX4_add_15 ?_
  refine a_astore_n (lv' := [(3, .ref (t0 + 9 + v2x0.toNatClampNeg)), (2, .int v2x0), (0, .ref t0), (1, .int v1)]) dX4_add_16 rfl (by decide) rfl ?_
  refine a_aload_n dX4_add_17 rfl rfl ?_
  refine a_iload_n dX4_add_18 rfl rfl ?_
  refine b_putI hK_8 (st_SA ht0 (h_in_lt (h_inV g2))) (i := 0) rfl fl_4_156 rfl rfl (h_NI _) dX4_add_19 ?_
  obtain ⟨I3, eI3, h⟩ := h_letS h
  refine a_memI eI3 ?_
  refine a_aload_n dX4_add_22 rfl rfl ?_
  refine a_iload_n dX4_add_23 rfl rfl ?_
  refine a_iconst dX4_add_24 ic_1 ?_
  refine a_iadd dX4_add_25 ?_
  refine b_putI hK_4 (k_LT ht0) (i := 3) rfl fl_4_77 rfl rfl (h_NI _) dX4_add_26 ?_
  obtain ⟨I4, eI4, h⟩ := h_letS h
  refine a_memI eI4 ?_
  refine a_aload_n dX4_add_29 rfl rfl ?_
  cases h
  exact a_aret dX4_add_30
theorem st_mLt_add (t0 : Nat) (ht0 : h_LT t0) (v1 : Int32) {I : hI} (q : Nat × hI) (h : mLt_add t0 v1 I = some q) : h_ST q.1 := by
  unfold mLt_add at h
  obtain ⟨v2, e2, h⟩ := h_letS h
  obtain ⟨g, h⟩ := h_gS h
  obtain ⟨I3, e3, h⟩ := h_letS h
  obtain ⟨I4, e4, h⟩ := h_letS h
  cases h
  exact st_SA ht0 (h_in_lt (h_inV g))
/-! CoinLoops$LoopText.readSetting(LCoinLoops$Reader;LCoinLoops$Step;)V -/
theorem dX4_readSetting_0 : decode cX4_readSetting 0 = .ok (.aload_n 0, 1) := by decide +kernel
theorem dX4_readSetting_1 : decode cX4_readSetting 1 = .ok (.bipush 61, 2) := by decide +kernel
theorem dX4_readSetting_3 : decode cX4_readSetting 3 = .ok (.invokevirtual 37, 3) := by decide +kernel
theorem dX4_readSetting_6 : decode cX4_readSetting 6 = .ok (.aload_n 0, 1) := by decide +kernel
theorem dX4_readSetting_7 : decode cX4_readSetting 7 = .ok (.invokevirtual 56, 3) := by decide +kernel
theorem dX4_readSetting_10 : decode cX4_readSetting 10 = .ok (.aload_n 1, 1) := by decide +kernel
theorem dX4_readSetting_11 : decode cX4_readSetting 11 = .ok (.aload_n 0, 1) := by decide +kernel
theorem dX4_readSetting_12 : decode cX4_readSetting 12 = .ok (.getfield 130, 3) := by decide +kernel
theorem dX4_readSetting_15 : decode cX4_readSetting 15 = .ok (.putfield 133, 3) := by decide +kernel
theorem dX4_readSetting_18 : decode cX4_readSetting 18 = .ok (.aload_n 1, 1) := by decide +kernel
theorem dX4_readSetting_19 : decode cX4_readSetting 19 = .ok (.aload_n 0, 1) := by decide +kernel
theorem dX4_readSetting_20 : decode cX4_readSetting 20 = .ok (.getfield 134, 3) := by decide +kernel
theorem dX4_readSetting_23 : decode cX4_readSetting 23 = .ok (.putfield 137, 3) := by decide +kernel
theorem dX4_readSetting_26 : decode cX4_readSetting 26 = .ok (.aload_n 1, 1) := by decide +kernel
theorem dX4_readSetting_27 : decode cX4_readSetting 27 = .ok (.aload_n 0, 1) := by decide +kernel
theorem dX4_readSetting_28 : decode cX4_readSetting 28 = .ok (.getfield 138, 3) := by decide +kernel
theorem dX4_readSetting_31 : decode cX4_readSetting 31 = .ok (.putfield 141, 3) := by decide +kernel
theorem dX4_readSetting_34 : decode cX4_readSetting 34 = .ok (.return_, 1) := by decide +kernel
def mLt_readSetting  (t1 : Nat) (I : hI) : Option (hI) :=
  (mRd_take (61 : Int32) I).bind fun q1 =>
  (mRd_readSum q1).bind fun q2 =>
  h_let (h_u q2 t1 3 (q2 1 9)) fun I3 =>
  h_let (h_u I3 t1 4 (I3 1 10)) fun I4 =>
  h_let (h_u I4 t1 5 (I4 1 11)) fun I5 =>
  some I5
set_option maxHeartbeats 4000000 in
theorem sLt_readSetting (d : Nat) (hd : 2 + 1 ≤ d) (t1 : Nat) (ht1 : h_ST t1) (I : hI) (J : hJ) (B : Bool × Bool) (q : hI) (h : mLt_readSetting t1 I = some q) : HMet hFT yX4_readSetting cX4_readSetting 2 none kdC d [.ref 1, .ref t1] (I, J, RM B) none (q, J, RM B) := by
  obtain ⟨d0, rfl, hd0⟩ := h_mono hd
  refine HMet.of (by decide) (Nat.le_of_ble_eq_true rfl) ?_
  show AW hFT cX4_readSetting 2 none RX4 kdC (d0 + 1) [(0, .ref 1), (1, .ref t1)] 0 [] (I, J, RM B) none (q, J, RM B)
  unfold mLt_readSetting at h
  refine a_aload_n dX4_readSetting_0 rfl rfl ?_
  refine a_bipush dX4_readSetting_1 bp_61 ?_
  obtain ⟨q1, cq1, h⟩ := h_bindS h
  refine a_callV0 [] yy_X6_take ml_4_37 kc_1 rfl (sRd_take _ (by omega) (61 : Int32) I J B q1 cq1) rfl rfl (Nat.le_of_ble_eq_true rfl) dX4_readSetting_3 ?_
  refine a_aload_n dX4_readSetting_6 rfl rfl ?_
  obtain ⟨q2, cq2, h⟩ := h_bindS h
  refine a_callV0 [] yy_X6_readSum ml_4_56 kc_1 rfl (sRd_readSum _ (by omega)  q1 J B q2 cq2) rfl rfl (Nat.le_of_ble_eq_true rfl) dX4_readSetting_7 ?_
  refine a_aload_n dX4_readSetting_10 rfl rfl ?_
  refine a_aload_n dX4_readSetting_11 rfl rfl ?_
  refine b_getI hK_6 kc_1 (i := 9) rfl fl_4_130 rfl dX4_readSetting_12 ?_
  refine b_putI hK_8 ht1 (i := 3) rfl fl_4_133 rfl rfl (h_NI _) dX4_readSetting_15 ?_
  obtain ⟨I3, eI3, h⟩ := h_letS h
  refine a_memI eI3 ?_
  refine a_aload_n dX4_readSetting_18 rfl rfl ?_
  refine a_aload_n dX4_readSetting_19 rfl rfl ?_
  refine b_getI hK_6 kc_1 (i := 10) rfl fl_4_134 rfl dX4_readSetting_20 ?_
  refine b_putI hK_8 ht1 (i := 4) rfl fl_4_137 rfl rfl (h_NI _) dX4_readSetting_23 ?_
  obtain ⟨I4, eI4, h⟩ := h_letS h
  refine a_memI eI4 ?_
  refine a_aload_n dX4_readSetting_26 rfl rfl ?_
  refine a_aload_n dX4_readSetting_27 rfl rfl ?_
  refine b_getI hK_6 kc_1 (i := 11) rfl fl_4_138 rfl dX4_readSetting_28 ?_
  refine b_putI hK_8 ht1 (i := 5) rfl fl_4_141 rfl rfl (h_NI _) dX4_readSetting_31 ?_
  obtain ⟨I5, eI5, h⟩ := h_letS h
  refine a_memI eI5 ?_
  cases h
  exact a_vret dX4_readSetting_34
/-! CoinLoops$LoopText.readPay(LCoinLoops$Reader;LCoinLoops$Step;)V -/
theorem dX4_readPay_0 : decode cX4_readPay 0 = .ok (.aload_n 1, 1) := by decide +kernel
theorem dX4_readPay_1 : decode cX4_readPay 1 = .ok (.iconst 0, 1) := by decide +kernel
theorem dX4_readPay_2 : decode cX4_readPay 2 = .ok (.bipush 20, 2) := by decide +kernel
theorem dX4_readPay_4 : decode cX4_readPay 4 = .ok (.invokevirtual 41, 3) := by decide +kernel
theorem dX4_readPay_7 : decode cX4_readPay 7 = .ok (.istore_n 3, 1) := by decide +kernel
theorem dX4_readPay_8 : decode cX4_readPay 8 = .ok (.aload_n 2, 1) := by decide +kernel
theorem dX4_readPay_9 : decode cX4_readPay 9 = .ok (.aload_n 0, 1) := by decide +kernel
theorem dX4_readPay_10 : decode cX4_readPay 10 = .ok (.getfield 87, 3) := by decide +kernel
theorem dX4_readPay_13 : decode cX4_readPay 13 = .ok (.putfield 121, 3) := by decide +kernel
theorem dX4_readPay_16 : decode cX4_readPay 16 = .ok (.aload_n 0, 1) := by decide +kernel
theorem dX4_readPay_17 : decode cX4_readPay 17 = .ok (.getfield 87, 3) := by decide +kernel
theorem dX4_readPay_20 : decode cX4_readPay 20 = .ok (.bipush 24, 2) := by decide +kernel
theorem dX4_readPay_22 : decode cX4_readPay 22 = .ok (.invokestatic 142, 3) := by decide +kernel
theorem dX4_readPay_25 : decode cX4_readPay 25 = .ok (.ifCond .ne 23, 3) := by decide +kernel
theorem dX4_readPay_28 : decode cX4_readPay 28 = .ok (.aload_n 0, 1) := by decide +kernel
theorem dX4_readPay_29 : decode cX4_readPay 29 = .ok (.getfield 24, 3) := by decide +kernel
theorem dX4_readPay_32 : decode cX4_readPay 32 = .ok (.aload_n 0, 1) := by decide +kernel
theorem dX4_readPay_33 : decode cX4_readPay 33 = .ok (.getfield 87, 3) := by decide +kernel
theorem dX4_readPay_36 : decode cX4_readPay 36 = .ok (.iload_n 3, 1) := by decide +kernel
theorem dX4_readPay_37 : decode cX4_readPay 37 = .ok (.iastore, 1) := by decide +kernel
theorem dX4_readPay_38 : decode cX4_readPay 38 = .ok (.aload_n 0, 1) := by decide +kernel
theorem dX4_readPay_39 : decode cX4_readPay 39 = .ok (.dup, 1) := by decide +kernel
theorem dX4_readPay_40 : decode cX4_readPay 40 = .ok (.getfield 87, 3) := by decide +kernel
theorem dX4_readPay_43 : decode cX4_readPay 43 = .ok (.iconst 1, 1) := by decide +kernel
theorem dX4_readPay_44 : decode cX4_readPay 44 = .ok (.iadd, 1) := by decide +kernel
theorem dX4_readPay_45 : decode cX4_readPay 45 = .ok (.putfield 87, 3) := by decide +kernel
theorem dX4_readPay_48 : decode cX4_readPay 48 = .ok (.return_, 1) := by decide +kernel
def mLt_readPay  (t0 : Nat) (t2 : Nat) (I : hI) : Option (hI) :=
  (mRd_takeNumber (0 : Int32) (20 : Int32) I).bind fun q1 =>
  h_let q1.1 fun v3x1 =>
  h_let (h_u q1.2 t2 1 (q1.2 t0 10)) fun I3 =>
  if (mC_isOutside (I3 t0 10) (24 : Int32)) = 0 then
    (h_g (h_in (I3 t0 10) 24) <|
    h_let (h_u I3 (t0 + 8) (I3 t0 10).toNatClampNeg v3x1) fun I5 =>
    h_let (h_u I5 t0 10 ((I5 t0 10) + (1 : Int32))) fun I6 =>
    some I6)
  else
    some I3
set_option maxHeartbeats 4000000 in
theorem sLt_readPay (d : Nat) (hd : 1 + 1 ≤ d) (t0 : Nat) (ht0 : h_LT t0) (t2 : Nat) (ht2 : h_ST t2) (I : hI) (J : hJ) (B : Bool × Bool) (q : hI) (h : mLt_readPay t0 t2 I = some q) : HMet hFT yX4_readPay cX4_readPay 4 none kdC d [.ref t0, .ref 1, .ref t2] (I, J, RM B) none (q, J, RM B) := by
  obtain ⟨d0, rfl, hd0⟩ := h_mono hd
  refine HMet.of (by decide) (Nat.le_of_ble_eq_true rfl) ?_
  show AW hFT cX4_readPay 4 none RX4 kdC (d0 + 1) [(0, .ref t0), (1, .ref 1), (2, .ref t2)] 0 [] (I, J, RM B) none (q, J, RM B)
  unfold mLt_readPay at h
  refine a_aload_n dX4_readPay_0 rfl rfl ?_
  refine a_iconst dX4_readPay_1 ic_0 ?_
  refine a_bipush dX4_readPay_2 bp_20 ?_
  obtain ⟨q1, cq1, h⟩ := h_bindS h
  refine a_callV1 [] yy_X6_takeNumber ml_4_41 kc_1 rfl (sRd_takeNumber _ (by omega) (0 : Int32) (20 : Int32) I J B q1 cq1) rfl rfl (Nat.le_of_ble_eq_true rfl) dX4_readPay_4 ?_
  obtain ⟨v3x1, ev3x1, h⟩ := h_letS h
  refine a_topI ev3x1 ?_
  refine a_istore_n (lv' := [(3, .int v3x1), (0, .ref t0), (1, .ref 1), (2, .ref t2)]) dX4_readPay_7 rfl (by decide) rfl ?_
  refine a_aload_n dX4_readPay_8 rfl rfl ?_
  refine a_aload_n dX4_readPay_9 rfl rfl ?_
  refine b_getI hK_4 (k_LT ht0) (i := 10) rfl fl_4_87 rfl dX4_readPay_10 ?_
  refine b_putI hK_8 ht2 (i := 1) rfl fl_4_121 rfl rfl (h_NI _) dX4_readPay_13 ?_
  obtain ⟨I3, eI3, h⟩ := h_letS h
  refine a_memI eI3 ?_
  refine a_aload_n dX4_readPay_16 rfl rfl ?_
  refine b_getI hK_4 (k_LT ht0) (i := 10) rfl fl_4_87 rfl dX4_readPay_17 ?_
  refine a_bipush dX4_readPay_20 bp_24 ?_
  refine a_callSN1 [] yy_X10_isOutside ml_4_142 (sC_isOutside _ (by omega) (I3 t0 10) (24 : Int32) I3 J B _ rfl) rfl rfl (Nat.le_of_ble_eq_true rfl) dX4_readPay_22 ?_
  refine a_if_ne (tgt := 48) dX4_readPay_25 (by decide) (fun c => ?_) (fun c => ?_)
  · replace h := h_iteF c h
    cases h
    exact a_vret dX4_readPay_48
  · replace h := h_iteT c h
    refine a_aload_n dX4_readPay_28 rfl rfl ?_
    refine b_getR hK_4 (k_LT ht0) (i := 2) rfl fl_4_24 rfl (rm_LT_2 B ht0) dX4_readPay_29 ?_
    refine a_aload_n dX4_readPay_32 rfl rfl ?_
    refine b_getI hK_4 (k_LT ht0) (i := 10) rfl fl_4_87 rfl dX4_readPay_33 ?_
    refine a_iload_n dX4_readPay_36 rfl rfl ?_
    obtain ⟨g4, h⟩ := h_gS h
    refine b_iastore (k_LT8 ht0) (h_inV g4) dX4_readPay_37 ?_
    obtain ⟨I5, eI5, h⟩ := h_letS h
    refine a_memI eI5 ?_
    refine a_aload_n dX4_readPay_38 rfl rfl ?_
    refine a_dup dX4_readPay_39 rfl ?_
    refine b_getI hK_4 (k_LT ht0) (i := 10) rfl fl_4_87 rfl dX4_readPay_40 ?_
    refine a_iconst dX4_readPay_43 ic_1 ?_
    refine a_iadd dX4_readPay_44 ?_
    refine b_putI hK_4 (k_LT ht0) (i := 10) rfl fl_4_87 rfl rfl (h_NI _) dX4_readPay_45 ?_
    obtain ⟨I6, eI6, h⟩ := h_letS h
    refine a_memI eI6 ?_
    cases h
    exact a_vret dX4_readPay_48
/-! CoinLoops$LoopText.readWays(LCoinLoops$Reader;LCoinLoops$Step;II)I -/
theorem dX4_readWays_0 : decode cX4_readWays 0 = .ok (.aload_n 0, 1) := by decide +kernel
theorem dX4_readWays_1 : decode cX4_readWays 1 = .ok (.aload_n 1, 1) := by decide +kernel
theorem dX4_readWays_2 : decode cX4_readWays 2 = .ok (.iload_n 3, 1) := by decide +kernel
theorem dX4_readWays_3 : decode cX4_readWays 3 = .ok (.iconst 1, 1) := by decide +kernel
theorem dX4_readWays_4 : decode cX4_readWays 4 = .ok (.iadd, 1) := by decide +kernel
theorem dX4_readWays_5 : decode cX4_readWays 5 = .ok (.iload 4, 2) := by decide +kernel
theorem dX4_readWays_7 : decode cX4_readWays 7 = .ok (.invokevirtual 69, 3) := by decide +kernel
theorem dX4_readWays_10 : decode cX4_readWays 10 = .ok (.istore 5, 2) := by decide +kernel
theorem dX4_readWays_12 : decode cX4_readWays 12 = .ok (.aload_n 0, 1) := by decide +kernel
theorem dX4_readWays_13 : decode cX4_readWays 13 = .ok (.sipush 300, 3) := by decide +kernel
theorem dX4_readWays_16 : decode cX4_readWays 16 = .ok (.invokevirtual 106, 3) := by decide +kernel
theorem dX4_readWays_19 : decode cX4_readWays 19 = .ok (.astore 6, 2) := by decide +kernel
theorem dX4_readWays_21 : decode cX4_readWays 21 = .ok (.aload_n 2, 1) := by decide +kernel
theorem dX4_readWays_22 : decode cX4_readWays 22 = .ok (.aload_n 0, 1) := by decide +kernel
theorem dX4_readWays_23 : decode cX4_readWays 23 = .ok (.getfield 77, 3) := by decide +kernel
theorem dX4_readWays_26 : decode cX4_readWays 26 = .ok (.putfield 145, 3) := by decide +kernel
theorem dX4_readWays_29 : decode cX4_readWays 29 = .ok (.aload_n 0, 1) := by decide +kernel
theorem dX4_readWays_30 : decode cX4_readWays 30 = .ok (.aload_n 1, 1) := by decide +kernel
theorem dX4_readWays_31 : decode cX4_readWays 31 = .ok (.iload_n 3, 1) := by decide +kernel
theorem dX4_readWays_32 : decode cX4_readWays 32 = .ok (.iconst 1, 1) := by decide +kernel
theorem dX4_readWays_33 : decode cX4_readWays 33 = .ok (.iadd, 1) := by decide +kernel
theorem dX4_readWays_34 : decode cX4_readWays 34 = .ok (.iload 4, 2) := by decide +kernel
theorem dX4_readWays_36 : decode cX4_readWays 36 = .ok (.invokevirtual 69, 3) := by decide +kernel
theorem dX4_readWays_39 : decode cX4_readWays 39 = .ok (.istore 7, 2) := by decide +kernel
theorem dX4_readWays_41 : decode cX4_readWays 41 = .ok (.aload 6, 2) := by decide +kernel
theorem dX4_readWays_43 : decode cX4_readWays 43 = .ok (.aload_n 0, 1) := by decide +kernel
theorem dX4_readWays_44 : decode cX4_readWays 44 = .ok (.getfield 77, 3) := by decide +kernel
theorem dX4_readWays_47 : decode cX4_readWays 47 = .ok (.putfield 145, 3) := by decide +kernel
theorem dX4_readWays_50 : decode cX4_readWays 50 = .ok (.iload 5, 2) := by decide +kernel
theorem dX4_readWays_52 : decode cX4_readWays 52 = .ok (.iload 7, 2) := by decide +kernel
theorem dX4_readWays_54 : decode cX4_readWays 54 = .ok (.invokestatic 148, 3) := by decide +kernel
theorem dX4_readWays_57 : decode cX4_readWays 57 = .ok (.ireturn, 1) := by decide +kernel
def mLt_readWays (rec : Nat → Int32 → Int32 → hI → Option (Int32 × hI))  (t0 : Nat) (t2 : Nat) (v3 : Int32) (v4 : Int32) (I : hI) : Option (Int32 × hI) :=
  (rec t0 (v3 + (1 : Int32)) v4 I).bind fun q1 =>
  h_let q1.1 fun v5x1 =>
  (mLt_add t0 (300 : Int32) q1.2).bind fun q3 =>
  h_let (h_u q3.2 t2 2 (q3.2 t0 3)) fun I4 =>
  (rec t0 (v3 + (1 : Int32)) v4 I4).bind fun q5 =>
  h_let q5.1 fun v7x5 =>
  h_let (h_u q5.2 q3.1 2 (q5.2 t0 3)) fun I7 =>
  some ((if v5x1 < v7x5 then v7x5 else v5x1), I7)
set_option maxHeartbeats 4000000 in
theorem sLt_readWays (rec : Nat → Int32 → Int32 → hI → Option (Int32 × hI)) (Dr : Nat) (hrec : ∀ d, Dr ≤ d → ∀ (t0 : Nat) (ht0 : h_LT t0) (v2 : Int32) (v3 : Int32) (I : hI) (J : hJ) (B : Bool × Bool) (q : Int32 × hI), rec t0 v2 v3 I = some q → HMet hFT yX4_readBlock cX4_readBlock 7 (some .int) kdC d [.ref t0, .ref 1, .int v2, .int v3] (I, J, RM B) (some (.int q.1)) (q.2, J, RM B)) (d : Nat) (hd : (Dr + 1) + 1 ≤ d) (t0 : Nat) (ht0 : h_LT t0) (t2 : Nat) (ht2 : h_ST t2) (v3 : Int32) (v4 : Int32) (I : hI) (J : hJ) (B : Bool × Bool) (q : Int32 × hI) (h : mLt_readWays rec t0 t2 v3 v4 I = some q) : HMet hFT yX4_readWays cX4_readWays 8 (some .int) kdC d [.ref t0, .ref 1, .ref t2, .int v3, .int v4] (I, J, RM B) (some (.int q.1)) (q.2, J, RM B) := by
  obtain ⟨d0, rfl, hd0⟩ := h_mono hd
  refine HMet.of (by decide) (Nat.le_of_ble_eq_true rfl) ?_
  show AW hFT cX4_readWays 8 (some .int) RX4 kdC (d0 + 1) [(0, .ref t0), (1, .ref 1), (2, .ref t2), (3, .int v3), (4, .int v4)] 0 [] (I, J, RM B) (some (.int q.1)) (q.2, J, RM B)
  unfold mLt_readWays at h
  refine a_aload_n dX4_readWays_0 rfl rfl ?_
  refine a_aload_n dX4_readWays_1 rfl rfl ?_
  refine a_iload_n dX4_readWays_2 rfl rfl ?_
  refine a_iconst dX4_readWays_3 ic_1 ?_
  refine a_iadd dX4_readWays_4 ?_
  refine a_iload dX4_readWays_5 rfl ?_
  obtain ⟨q1, cq1, h⟩ := h_bindS h
  refine a_callV1 [] yy_X4_readBlock ml_4_69 (k_LT ht0) rfl (hrec _ (by omega) t0 ht0 (v3 + (1 : Int32)) v4 I J B q1 cq1) rfl rfl (Nat.le_of_ble_eq_true rfl) dX4_readWays_7 ?_
  obtain ⟨v5x1, ev5x1, h⟩ := h_letS h
  refine a_topI ev5x1 ?_
  refine a_istore (lv' := [(5, .int v5x1), (0, .ref t0), (1, .ref 1), (2, .ref t2), (3, .int v3), (4, .int v4)]) dX4_readWays_10 (by decide) rfl ?_
  refine a_aload_n dX4_readWays_12 rfl rfl ?_
  refine a_sipush dX4_readWays_13 sq_300 ?_
  obtain ⟨q3, cq3, h⟩ := h_bindS h
  refine a_callV1 [] yy_X4_add ml_4_106 (k_LT ht0) rfl (sLt_add _ (by omega) t0 ht0 (300 : Int32) q1.2 J B q3 cq3) rfl rfl (Nat.le_of_ble_eq_true rfl) dX4_readWays_16 ?_
  refine a_astore (lv' := [(6, .ref q3.1), (5, .int v5x1), (0, .ref t0), (1, .ref 1), (2, .ref t2), (3, .int v3), (4, .int v4)]) dX4_readWays_19 (by decide) rfl ?_
  refine a_aload_n dX4_readWays_21 rfl rfl ?_
  refine a_aload_n dX4_readWays_22 rfl rfl ?_
  refine b_getI hK_4 (k_LT ht0) (i := 3) rfl fl_4_77 rfl dX4_readWays_23 ?_
  refine b_putI hK_8 ht2 (i := 2) rfl fl_4_145 rfl rfl (h_NI _) dX4_readWays_26 ?_
  obtain ⟨I4, eI4, h⟩ := h_letS h
  refine a_memI eI4 ?_
  refine a_aload_n dX4_readWays_29 rfl rfl ?_
  refine a_aload_n dX4_readWays_30 rfl rfl ?_
  refine a_iload_n dX4_readWays_31 rfl rfl ?_
  refine a_iconst dX4_readWays_32 ic_1 ?_
  refine a_iadd dX4_readWays_33 ?_
  refine a_iload dX4_readWays_34 rfl ?_
  obtain ⟨q5, cq5, h⟩ := h_bindS h
  refine a_callV1 [] yy_X4_readBlock ml_4_69 (k_LT ht0) rfl (hrec _ (by omega) t0 ht0 (v3 + (1 : Int32)) v4 I4 J B q5 cq5) rfl rfl (Nat.le_of_ble_eq_true rfl) dX4_readWays_36 ?_
  obtain ⟨v7x5, ev7x5, h⟩ := h_letS h
  refine a_topI ev7x5 ?_
  refine a_istore (lv' := [(7, .int v7x5), (6, .ref q3.1), (5, .int v5x1), (0, .ref t0), (1, .ref 1), (2, .ref t2), (3, .int v3), (4, .int v4)]) dX4_readWays_39 (by decide) rfl ?_
  refine a_aload dX4_readWays_41 rfl ?_
  refine a_aload_n dX4_readWays_43 rfl rfl ?_
  refine b_getI hK_4 (k_LT ht0) (i := 3) rfl fl_4_77 rfl dX4_readWays_44 ?_
  refine b_putI hK_8 (st_mLt_add t0 ht0 (300 : Int32) q3 cq3) (i := 2) rfl fl_4_145 rfl rfl (h_NI _) dX4_readWays_47 ?_
  obtain ⟨I7, eI7, h⟩ := h_letS h
  refine a_memI eI7 ?_
  refine a_iload dX4_readWays_50 rfl ?_
  refine a_iload dX4_readWays_52 rfl ?_
  refine a_mmax w_mmax ml_4_148 (Nat.le_of_ble_eq_true rfl) dX4_readWays_54 ?_
  cases h
  exact a_iret dX4_readWays_57
/-! CoinLoops$LoopText.readStatement(LCoinLoops$Reader;II)I -/
theorem dX4_readStatement_0 : decode cX4_readStatement 0 = .ok (.aload_n 1, 1) := by decide +kernel
theorem dX4_readStatement_1 : decode cX4_readStatement 1 = .ok (.getfield 90, 3) := by decide +kernel
theorem dX4_readStatement_4 : decode cX4_readStatement 4 = .ok (.istore 4, 2) := by decide +kernel
theorem dX4_readStatement_6 : decode cX4_readStatement 6 = .ok (.aload_n 0, 1) := by decide +kernel
theorem dX4_readStatement_7 : decode cX4_readStatement 7 = .ok (.iload 4, 2) := by decide +kernel
theorem dX4_readStatement_9 : decode cX4_readStatement 9 = .ok (.iload_n 3, 1) := by decide +kernel
theorem dX4_readStatement_10 : decode cX4_readStatement 10 = .ok (.invokevirtual 102, 3) := by decide +kernel
theorem dX4_readStatement_13 : decode cX4_readStatement 13 = .ok (.ifCond .ne 9, 3) := by decide +kernel
theorem dX4_readStatement_16 : decode cX4_readStatement 16 = .ok (.aload_n 1, 1) := by decide +kernel
theorem dX4_readStatement_17 : decode cX4_readStatement 17 = .ok (.invokevirtual 93, 3) := by decide +kernel
theorem dX4_readStatement_20 : decode cX4_readStatement 20 = .ok (.iload_n 3, 1) := by decide +kernel
theorem dX4_readStatement_21 : decode cX4_readStatement 21 = .ok (.ireturn, 1) := by decide +kernel
theorem dX4_readStatement_22 : decode cX4_readStatement 22 = .ok (.aload_n 0, 1) := by decide +kernel
theorem dX4_readStatement_23 : decode cX4_readStatement 23 = .ok (.dup, 1) := by decide +kernel
theorem dX4_readStatement_24 : decode cX4_readStatement 24 = .ok (.getfield 78, 3) := by decide +kernel
theorem dX4_readStatement_27 : decode cX4_readStatement 27 = .ok (.iconst 1, 1) := by decide +kernel
theorem dX4_readStatement_28 : decode cX4_readStatement 28 = .ok (.iadd, 1) := by decide +kernel
theorem dX4_readStatement_29 : decode cX4_readStatement 29 = .ok (.putfield 78, 3) := by decide +kernel
theorem dX4_readStatement_32 : decode cX4_readStatement 32 = .ok (.aload_n 0, 1) := by decide +kernel
theorem dX4_readStatement_33 : decode cX4_readStatement 33 = .ok (.iload 4, 2) := by decide +kernel
theorem dX4_readStatement_35 : decode cX4_readStatement 35 = .ok (.invokevirtual 106, 3) := by decide +kernel
theorem dX4_readStatement_38 : decode cX4_readStatement 38 = .ok (.astore 5, 2) := by decide +kernel
theorem dX4_readStatement_40 : decode cX4_readStatement 40 = .ok (.aload_n 1, 1) := by decide +kernel
theorem dX4_readStatement_41 : decode cX4_readStatement 41 = .ok (.invokevirtual 96, 3) := by decide +kernel
theorem dX4_readStatement_44 : decode cX4_readStatement 44 = .ok (.iload 4, 2) := by decide +kernel
theorem dX4_readStatement_46 : decode cX4_readStatement 46 = .ok (.tableswitch 156 258 264 #[42, 42, 156, 50, 59, 81, 110], 42) := by decide +kernel
theorem dX4_readStatement_88 : decode cX4_readStatement 88 = .ok (.aload_n 1, 1) := by decide +kernel
theorem dX4_readStatement_89 : decode cX4_readStatement 89 = .ok (.aload 5, 2) := by decide +kernel
theorem dX4_readStatement_91 : decode cX4_readStatement 91 = .ok (.invokestatic 110, 3) := by decide +kernel
theorem dX4_readStatement_94 : decode cX4_readStatement 94 = .ok (.iload_n 3, 1) := by decide +kernel
theorem dX4_readStatement_95 : decode cX4_readStatement 95 = .ok (.ireturn, 1) := by decide +kernel
theorem dX4_readStatement_96 : decode cX4_readStatement 96 = .ok (.aload_n 0, 1) := by decide +kernel
theorem dX4_readStatement_97 : decode cX4_readStatement 97 = .ok (.aload_n 1, 1) := by decide +kernel
theorem dX4_readStatement_98 : decode cX4_readStatement 98 = .ok (.aload 5, 2) := by decide +kernel
theorem dX4_readStatement_100 : decode cX4_readStatement 100 = .ok (.invokevirtual 114, 3) := by decide +kernel
theorem dX4_readStatement_103 : decode cX4_readStatement 103 = .ok (.iload_n 3, 1) := by decide +kernel
theorem dX4_readStatement_104 : decode cX4_readStatement 104 = .ok (.ireturn, 1) := by decide +kernel
theorem dX4_readStatement_105 : decode cX4_readStatement 105 = .ok (.aload_n 0, 1) := by decide +kernel
theorem dX4_readStatement_106 : decode cX4_readStatement 106 = .ok (.dup, 1) := by decide +kernel
theorem dX4_readStatement_107 : decode cX4_readStatement 107 = .ok (.getfield 84, 3) := by decide +kernel
theorem dX4_readStatement_110 : decode cX4_readStatement 110 = .ok (.iconst 1, 1) := by decide +kernel
theorem dX4_readStatement_111 : decode cX4_readStatement 111 = .ok (.iadd, 1) := by decide +kernel
theorem dX4_readStatement_112 : decode cX4_readStatement 112 = .ok (.putfield 84, 3) := by decide +kernel
theorem dX4_readStatement_115 : decode cX4_readStatement 115 = .ok (.aload_n 0, 1) := by decide +kernel
theorem dX4_readStatement_116 : decode cX4_readStatement 116 = .ok (.aload_n 1, 1) := by decide +kernel
theorem dX4_readStatement_117 : decode cX4_readStatement 117 = .ok (.aload 5, 2) := by decide +kernel
theorem dX4_readStatement_119 : decode cX4_readStatement 119 = .ok (.iload_n 2, 1) := by decide +kernel
theorem dX4_readStatement_120 : decode cX4_readStatement 120 = .ok (.iload_n 3, 1) := by decide +kernel
theorem dX4_readStatement_121 : decode cX4_readStatement 121 = .ok (.iconst 1, 1) := by decide +kernel
theorem dX4_readStatement_122 : decode cX4_readStatement 122 = .ok (.iadd, 1) := by decide +kernel
theorem dX4_readStatement_123 : decode cX4_readStatement 123 = .ok (.invokevirtual 117, 3) := by decide +kernel
theorem dX4_readStatement_126 : decode cX4_readStatement 126 = .ok (.ireturn, 1) := by decide +kernel
theorem dX4_readStatement_127 : decode cX4_readStatement 127 = .ok (.aload 5, 2) := by decide +kernel
theorem dX4_readStatement_129 : decode cX4_readStatement 129 = .ok (.aload_n 0, 1) := by decide +kernel
theorem dX4_readStatement_130 : decode cX4_readStatement 130 = .ok (.getfield 81, 3) := by decide +kernel
theorem dX4_readStatement_133 : decode cX4_readStatement 133 = .ok (.putfield 121, 3) := by decide +kernel
theorem dX4_readStatement_136 : decode cX4_readStatement 136 = .ok (.aload_n 0, 1) := by decide +kernel
theorem dX4_readStatement_137 : decode cX4_readStatement 137 = .ok (.dup, 1) := by decide +kernel
theorem dX4_readStatement_138 : decode cX4_readStatement 138 = .ok (.getfield 81, 3) := by decide +kernel
theorem dX4_readStatement_141 : decode cX4_readStatement 141 = .ok (.iconst 1, 1) := by decide +kernel
theorem dX4_readStatement_142 : decode cX4_readStatement 142 = .ok (.iadd, 1) := by decide +kernel
theorem dX4_readStatement_143 : decode cX4_readStatement 143 = .ok (.putfield 81, 3) := by decide +kernel
theorem dX4_readStatement_146 : decode cX4_readStatement 146 = .ok (.aload_n 0, 1) := by decide +kernel
theorem dX4_readStatement_147 : decode cX4_readStatement 147 = .ok (.aload_n 1, 1) := by decide +kernel
theorem dX4_readStatement_148 : decode cX4_readStatement 148 = .ok (.aload 5, 2) := by decide +kernel
theorem dX4_readStatement_150 : decode cX4_readStatement 150 = .ok (.iload_n 2, 1) := by decide +kernel
theorem dX4_readStatement_151 : decode cX4_readStatement 151 = .ok (.iload_n 3, 1) := by decide +kernel
theorem dX4_readStatement_152 : decode cX4_readStatement 152 = .ok (.invokevirtual 117, 3) := by decide +kernel
theorem dX4_readStatement_155 : decode cX4_readStatement 155 = .ok (.ireturn, 1) := by decide +kernel
theorem dX4_readStatement_156 : decode cX4_readStatement 156 = .ok (.aload 5, 2) := by decide +kernel
theorem dX4_readStatement_158 : decode cX4_readStatement 158 = .ok (.aload_n 0, 1) := by decide +kernel
theorem dX4_readStatement_159 : decode cX4_readStatement 159 = .ok (.getfield 12, 3) := by decide +kernel
theorem dX4_readStatement_162 : decode cX4_readStatement 162 = .ok (.getfield 63, 3) := by decide +kernel
theorem dX4_readStatement_165 : decode cX4_readStatement 165 = .ok (.putfield 124, 3) := by decide +kernel
theorem dX4_readStatement_168 : decode cX4_readStatement 168 = .ok (.aload_n 1, 1) := by decide +kernel
theorem dX4_readStatement_169 : decode cX4_readStatement 169 = .ok (.invokevirtual 56, 3) := by decide +kernel
theorem dX4_readStatement_172 : decode cX4_readStatement 172 = .ok (.aload_n 1, 1) := by decide +kernel
theorem dX4_readStatement_173 : decode cX4_readStatement 173 = .ok (.aload_n 0, 1) := by decide +kernel
theorem dX4_readStatement_174 : decode cX4_readStatement 174 = .ok (.getfield 12, 3) := by decide +kernel
theorem dX4_readStatement_177 : decode cX4_readStatement 177 = .ok (.invokevirtual 59, 3) := by decide +kernel
theorem dX4_readStatement_180 : decode cX4_readStatement 180 = .ok (.aload 5, 2) := by decide +kernel
theorem dX4_readStatement_182 : decode cX4_readStatement 182 = .ok (.aload_n 0, 1) := by decide +kernel
theorem dX4_readStatement_183 : decode cX4_readStatement 183 = .ok (.getfield 12, 3) := by decide +kernel
theorem dX4_readStatement_186 : decode cX4_readStatement 186 = .ok (.getfield 63, 3) := by decide +kernel
theorem dX4_readStatement_189 : decode cX4_readStatement 189 = .ok (.putfield 127, 3) := by decide +kernel
theorem dX4_readStatement_192 : decode cX4_readStatement 192 = .ok (.aload_n 0, 1) := by decide +kernel
theorem dX4_readStatement_193 : decode cX4_readStatement 193 = .ok (.aload_n 1, 1) := by decide +kernel
theorem dX4_readStatement_194 : decode cX4_readStatement 194 = .ok (.aload 5, 2) := by decide +kernel
theorem dX4_readStatement_196 : decode cX4_readStatement 196 = .ok (.iload_n 2, 1) := by decide +kernel
theorem dX4_readStatement_197 : decode cX4_readStatement 197 = .ok (.iload_n 3, 1) := by decide +kernel
theorem dX4_readStatement_198 : decode cX4_readStatement 198 = .ok (.invokevirtual 117, 3) := by decide +kernel
theorem dX4_readStatement_201 : decode cX4_readStatement 201 = .ok (.ireturn, 1) := by decide +kernel
theorem dX4_readStatement_202 : decode cX4_readStatement 202 = .ok (.iload_n 3, 1) := by decide +kernel
theorem dX4_readStatement_203 : decode cX4_readStatement 203 = .ok (.ireturn, 1) := by decide +kernel
def mLt_readStatement (rec : Nat → Int32 → Int32 → hI → Option (Int32 × hI))  (t0 : Nat) (v2 : Int32) (v3 : Int32) (I : hI) : Option (Int32 × hI) :=
  h_let (I 1 7) fun v4x0 =>
  if (mLt_canBegin t0 v4x0 v3 I) = 0 then
    ((mRd_fail I).bind fun q2 =>
    some (v3, q2))
  else
    (h_let (h_u I t0 7 ((I t0 7) + (1 : Int32))) fun I2 =>
    (mLt_add t0 v4x0 I2).bind fun q3 =>
    (mRd_next q3.2).bind fun q4 =>
    if v4x0 = 258 then
      ((mLt_readSetting q3.1 q4).bind fun q5 =>
      some (v3, q5))
    else
      (if v4x0 = 259 then
        ((mLt_readSetting q3.1 q4).bind fun q5 =>
        some (v3, q5))
      else
        (if v4x0 = 260 then
          some (v3, q4)
        else
          (if v4x0 = 261 then
            ((mLt_readPay t0 q3.1 q4).bind fun q5 =>
            some (v3, q5))
          else
            (if v4x0 = 262 then
              (h_let (h_u q4 t0 9 ((q4 t0 9) + (1 : Int32))) fun I5 =>
              (mLt_readWays rec t0 q3.1 v2 (v3 + (1 : Int32)) I5).bind fun q6 =>
              some (q6.1, q6.2))
            else
              (if v4x0 = 263 then
                (h_let (h_u q4 q3.1 1 (q4 t0 8)) fun I5 =>
                h_let (h_u I5 t0 8 ((I5 t0 8) + (1 : Int32))) fun I6 =>
                (mLt_readWays rec t0 q3.1 v2 v3 I6).bind fun q7 =>
                some (q7.1, q7.2))
              else
                (if v4x0 = 264 then
                  (h_let (h_u q4 q3.1 6 (q4 (t0 + 1) 5)) fun I5 =>
                  (mRd_readSum I5).bind fun q6 =>
                  (mRd_readCondition (t0 + 1) q6).bind fun q7 =>
                  h_let (h_u q7 q3.1 7 (q7 (t0 + 1) 5)) fun I8 =>
                  (mLt_readWays rec t0 q3.1 v2 v3 I8).bind fun q9 =>
                  some (q9.1, q9.2))
                else
                  some (v3, q4))))))))
set_option maxHeartbeats 4000000 in
theorem sLt_readStatement (rec : Nat → Int32 → Int32 → hI → Option (Int32 × hI)) (Dr : Nat) (hrec : ∀ d, Dr ≤ d → ∀ (t0 : Nat) (ht0 : h_LT t0) (v2 : Int32) (v3 : Int32) (I : hI) (J : hJ) (B : Bool × Bool) (q : Int32 × hI), rec t0 v2 v3 I = some q → HMet hFT yX4_readBlock cX4_readBlock 7 (some .int) kdC d [.ref t0, .ref 1, .int v2, .int v3] (I, J, RM B) (some (.int q.1)) (q.2, J, RM B)) (d : Nat) (hd : (Dr + 3) + 1 ≤ d) (t0 : Nat) (ht0 : h_LT t0) (v2 : Int32) (v3 : Int32) (I : hI) (J : hJ) (B : Bool × Bool) (q : Int32 × hI) (h : mLt_readStatement rec t0 v2 v3 I = some q) : HMet hFT yX4_readStatement cX4_readStatement 6 (some .int) kdC d [.ref t0, .ref 1, .int v2, .int v3] (I, J, RM B) (some (.int q.1)) (q.2, J, RM B) := by
  obtain ⟨d0, rfl, hd0⟩ := h_mono hd
  refine HMet.of (by decide) (Nat.le_of_ble_eq_true rfl) ?_
  show AW hFT cX4_readStatement 6 (some .int) RX4 kdC (d0 + 1) [(0, .ref t0), (1, .ref 1), (2, .int v2), (3, .int v3)] 0 [] (I, J, RM B) (some (.int q.1)) (q.2, J, RM B)
  unfold mLt_readStatement at h
  refine a_aload_n dX4_readStatement_0 rfl rfl ?_
  refine b_getI hK_6 kc_1 (i := 7) rfl fl_4_90 rfl dX4_readStatement_1 ?_
  obtain ⟨v4x0, ev4x0, h⟩ := h_letS h
  refine a_topI ev4x0 ?_
  refine a_istore (lv' := [(4, .int v4x0), (0, .ref t0), (1, .ref 1), (2, .int v2), (3, .int v3)]) dX4_readStatement_4 (by decide) rfl ?_
  refine a_aload_n dX4_readStatement_6 rfl rfl ?_
  refine a_iload dX4_readStatement_7 rfl ?_
  refine a_iload_n dX4_readStatement_9 rfl rfl ?_
  refine a_callV1 [] yy_X4_canBegin ml_4_102 (k_LT ht0) rfl (sLt_canBegin _ (by omega) t0 ht0 v4x0 v3 I J B _ rfl) rfl rfl (Nat.le_of_ble_eq_true rfl) dX4_readStatement_10 ?_
  refine a_if_ne (tgt := 22) dX4_readStatement_13 (by decide) (fun c => ?_) (fun c => ?_)
  · replace h := h_iteF c h
    refine a_aload_n dX4_readStatement_22 rfl rfl ?_
    refine a_dup dX4_readStatement_23 rfl ?_
    refine b_getI hK_4 (k_LT ht0) (i := 7) rfl fl_4_78 rfl dX4_readStatement_24 ?_
    refine a_iconst dX4_readStatement_27 ic_1 ?_
    refine a_iadd dX4_readStatement_28 ?_
    refine b_putI hK_4 (k_LT ht0) (i := 7) rfl fl_4_78 rfl rfl (h_NI _) dX4_readStatement_29 ?_
    obtain ⟨I2, eI2, h⟩ := h_letS h
    refine a_memI eI2 ?_
    refine a_aload_n dX4_readStatement_32 rfl rfl ?_
    refine a_iload dX4_readStatement_33 rfl ?_
    obtain ⟨q3, cq3, h⟩ := h_bindS h
    refine a_callV1 [] yy_X4_add ml_4_106 (k_LT ht0) rfl (sLt_add _ (by omega) t0 ht0 v4x0 I2 J B q3 cq3) rfl rfl (Nat.le_of_ble_eq_true rfl) dX4_readStatement_35 ?_
    refine a_astore (lv' := [(5, .ref q3.1), (4, .int v4x0), (0, .ref t0), (1, .ref 1), (2, .int v2), (3, .int v3)]) dX4_readStatement_38 (by decide) rfl ?_
    refine a_aload_n dX4_readStatement_40 rfl rfl ?_
    obtain ⟨q4, cq4, h⟩ := h_bindS h
    refine a_callV0 [] yy_X6_next ml_4_96 kc_1 rfl (sRd_next _ (by omega)  q3.2 J B q4 cq4) rfl rfl (Nat.le_of_ble_eq_true rfl) dX4_readStatement_41 ?_
    refine a_iload dX4_readStatement_44 rfl ?_
    by_cases n258 : v4x0 = 258
    · replace h := h_iteT n258 h
      refine a_topI n258 ?_
      refine a_tableIn (tgt := 88) (off := 42) dX4_readStatement_46 (by decide) (by decide) (by decide) (by decide) ?_
      refine a_aload_n dX4_readStatement_88 rfl rfl ?_
      refine a_aload dX4_readStatement_89 rfl ?_
      obtain ⟨q5, cq5, h⟩ := h_bindS h
      refine a_callS0 [] yy_X4_readSetting ml_4_110 (sLt_readSetting _ (by omega) q3.1 (st_mLt_add t0 ht0 v4x0 q3 cq3) q4 J B q5 cq5) rfl rfl (Nat.le_of_ble_eq_true rfl) dX4_readStatement_91 ?_
      refine a_iload_n dX4_readStatement_94 rfl rfl ?_
      cases h
      exact a_iret dX4_readStatement_95
    · replace h := h_iteF n258 h
      by_cases n259 : v4x0 = 259
      · replace h := h_iteT n259 h
        refine a_topI n259 ?_
        refine a_tableIn (tgt := 88) (off := 42) dX4_readStatement_46 (by decide) (by decide) (by decide) (by decide) ?_
        refine a_aload_n dX4_readStatement_88 rfl rfl ?_
        refine a_aload dX4_readStatement_89 rfl ?_
        obtain ⟨q5, cq5, h⟩ := h_bindS h
        refine a_callS0 [] yy_X4_readSetting ml_4_110 (sLt_readSetting _ (by omega) q3.1 (st_mLt_add t0 ht0 v4x0 q3 cq3) q4 J B q5 cq5) rfl rfl (Nat.le_of_ble_eq_true rfl) dX4_readStatement_91 ?_
        refine a_iload_n dX4_readStatement_94 rfl rfl ?_
        cases h
        exact a_iret dX4_readStatement_95
      · replace h := h_iteF n259 h
        by_cases n260 : v4x0 = 260
        · replace h := h_iteT n260 h
          refine a_topI n260 ?_
          refine a_tableIn (tgt := 202) (off := 156) dX4_readStatement_46 (by decide) (by decide) (by decide) (by decide) ?_
          refine a_iload_n dX4_readStatement_202 rfl rfl ?_
          cases h
          exact a_iret dX4_readStatement_203
        · replace h := h_iteF n260 h
          by_cases n261 : v4x0 = 261
          · replace h := h_iteT n261 h
            refine a_topI n261 ?_
            refine a_tableIn (tgt := 96) (off := 50) dX4_readStatement_46 (by decide) (by decide) (by decide) (by decide) ?_
            refine a_aload_n dX4_readStatement_96 rfl rfl ?_
            refine a_aload_n dX4_readStatement_97 rfl rfl ?_
            refine a_aload dX4_readStatement_98 rfl ?_
            obtain ⟨q5, cq5, h⟩ := h_bindS h
            refine a_callV0 [] yy_X4_readPay ml_4_114 (k_LT ht0) rfl (sLt_readPay _ (by omega) t0 ht0 q3.1 (st_mLt_add t0 ht0 v4x0 q3 cq3) q4 J B q5 cq5) rfl rfl (Nat.le_of_ble_eq_true rfl) dX4_readStatement_100 ?_
            refine a_iload_n dX4_readStatement_103 rfl rfl ?_
            cases h
            exact a_iret dX4_readStatement_104
          · replace h := h_iteF n261 h
            by_cases n262 : v4x0 = 262
            · replace h := h_iteT n262 h
              refine a_topI n262 ?_
              refine a_tableIn (tgt := 105) (off := 59) dX4_readStatement_46 (by decide) (by decide) (by decide) (by decide) ?_
              refine a_aload_n dX4_readStatement_105 rfl rfl ?_
              refine a_dup dX4_readStatement_106 rfl ?_
              refine b_getI hK_4 (k_LT ht0) (i := 9) rfl fl_4_84 rfl dX4_readStatement_107 ?_
              refine a_iconst dX4_readStatement_110 ic_1 ?_
              refine a_iadd dX4_readStatement_111 ?_
              refine b_putI hK_4 (k_LT ht0) (i := 9) rfl fl_4_84 rfl rfl (h_NI _) dX4_readStatement_112 ?_
              obtain ⟨I5, eI5, h⟩ := h_letS h
              refine a_memI eI5 ?_
              refine a_aload_n dX4_readStatement_115 rfl rfl ?_
              refine a_aload_n dX4_readStatement_116 rfl rfl ?_
              refine a_aload dX4_readStatement_117 rfl ?_
              refine a_iload_n dX4_readStatement_119 rfl rfl ?_
              refine a_iload_n dX4_readStatement_120 rfl rfl ?_
              refine a_iconst dX4_readStatement_121 ic_1 ?_
              refine a_iadd dX4_readStatement_122 ?_
              obtain ⟨q6, cq6, h⟩ := h_bindS h
              refine a_callV1 [] yy_X4_readWays ml_4_117 (k_LT ht0) rfl (sLt_readWays rec Dr hrec _ (by omega) t0 ht0 q3.1 (st_mLt_add t0 ht0 v4x0 q3 cq3) v2 (v3 + (1 : Int32)) I5 J B q6 cq6) rfl rfl (Nat.le_of_ble_eq_true rfl) dX4_readStatement_123 ?_
              cases h
              exact a_iret dX4_readStatement_126
            · replace h := h_iteF n262 h
              by_cases n263 : v4x0 = 263
              · replace h := h_iteT n263 h
                refine a_topI n263 ?_
                refine a_tableIn (tgt := 127) (off := 81) dX4_readStatement_46 (by decide) (by decide) (by decide) (by decide) ?_
                refine a_aload dX4_readStatement_127 rfl ?_
                refine a_aload_n dX4_readStatement_129 rfl rfl ?_
                refine b_getI hK_4 (k_LT ht0) (i := 8) rfl fl_4_81 rfl dX4_readStatement_130 ?_
                refine b_putI hK_8 (st_mLt_add t0 ht0 v4x0 q3 cq3) (i := 1) rfl fl_4_121 rfl rfl (h_NI _) dX4_readStatement_133 ?_
                obtain ⟨I5, eI5, h⟩ := h_letS h
                refine a_memI eI5 ?_
                refine a_aload_n dX4_readStatement_136 rfl rfl ?_
                refine a_dup dX4_readStatement_137 rfl ?_
                refine b_getI hK_4 (k_LT ht0) (i := 8) rfl fl_4_81 rfl dX4_readStatement_138 ?_
                refine a_iconst dX4_readStatement_141 ic_1 ?_
                refine a_iadd dX4_readStatement_142 ?_
                refine b_putI hK_4 (k_LT ht0) (i := 8) rfl fl_4_81 rfl rfl (h_NI _) dX4_readStatement_143 ?_
                obtain ⟨I6, eI6, h⟩ := h_letS h
                refine a_memI eI6 ?_
                refine a_aload_n dX4_readStatement_146 rfl rfl ?_
                refine a_aload_n dX4_readStatement_147 rfl rfl ?_
                refine a_aload dX4_readStatement_148 rfl ?_
                refine a_iload_n dX4_readStatement_150 rfl rfl ?_
                refine a_iload_n dX4_readStatement_151 rfl rfl ?_
                obtain ⟨q7, cq7, h⟩ := h_bindS h
                refine a_callV1 [] yy_X4_readWays ml_4_117 (k_LT ht0) rfl (sLt_readWays rec Dr hrec _ (by omega) t0 ht0 q3.1 (st_mLt_add t0 ht0 v4x0 q3 cq3) v2 v3 I6 J B q7 cq7) rfl rfl (Nat.le_of_ble_eq_true rfl) dX4_readStatement_152 ?_
                cases h
                exact a_iret dX4_readStatement_155
              · replace h := h_iteF n263 h
                by_cases n264 : v4x0 = 264
                · replace h := h_iteT n264 h
                  refine a_topI n264 ?_
                  refine a_tableIn (tgt := 156) (off := 110) dX4_readStatement_46 (by decide) (by decide) (by decide) (by decide) ?_
                  refine a_aload dX4_readStatement_156 rfl ?_
                  refine a_aload_n dX4_readStatement_158 rfl rfl ?_
                  refine b_getR hK_4 (k_LT ht0) (i := 0) rfl fl_4_12 rfl (rm_LT_0 B ht0) dX4_readStatement_159 ?_
                  refine b_getI hK_0 (k_CD (cd_LT ht0)) (i := 5) rfl fl_4_63 rfl dX4_readStatement_162 ?_
                  refine b_putI hK_8 (st_mLt_add t0 ht0 v4x0 q3 cq3) (i := 6) rfl fl_4_124 rfl rfl (h_NI _) dX4_readStatement_165 ?_
                  obtain ⟨I5, eI5, h⟩ := h_letS h
                  refine a_memI eI5 ?_
                  refine a_aload_n dX4_readStatement_168 rfl rfl ?_
                  obtain ⟨q6, cq6, h⟩ := h_bindS h
                  refine a_callV0 [] yy_X6_readSum ml_4_56 kc_1 rfl (sRd_readSum _ (by omega)  I5 J B q6 cq6) rfl rfl (Nat.le_of_ble_eq_true rfl) dX4_readStatement_169 ?_
                  refine a_aload_n dX4_readStatement_172 rfl rfl ?_
                  refine a_aload_n dX4_readStatement_173 rfl rfl ?_
                  refine b_getR hK_4 (k_LT ht0) (i := 0) rfl fl_4_12 rfl (rm_LT_0 B ht0) dX4_readStatement_174 ?_
                  obtain ⟨q7, cq7, h⟩ := h_bindS h
                  refine a_callV0 [] yy_X6_readCondition ml_4_59 kc_1 rfl (sRd_readCondition _ (by omega) (t0 + 1) (cd_LT ht0) q6 J B q7 cq7) rfl rfl (Nat.le_of_ble_eq_true rfl) dX4_readStatement_177 ?_
                  refine a_aload dX4_readStatement_180 rfl ?_
                  refine a_aload_n dX4_readStatement_182 rfl rfl ?_
                  refine b_getR hK_4 (k_LT ht0) (i := 0) rfl fl_4_12 rfl (rm_LT_0 B ht0) dX4_readStatement_183 ?_
                  refine b_getI hK_0 (k_CD (cd_LT ht0)) (i := 5) rfl fl_4_63 rfl dX4_readStatement_186 ?_
                  refine b_putI hK_8 (st_mLt_add t0 ht0 v4x0 q3 cq3) (i := 7) rfl fl_4_127 rfl rfl (h_NI _) dX4_readStatement_189 ?_
                  obtain ⟨I8, eI8, h⟩ := h_letS h
                  refine a_memI eI8 ?_
                  refine a_aload_n dX4_readStatement_192 rfl rfl ?_
                  refine a_aload_n dX4_readStatement_193 rfl rfl ?_
                  refine a_aload dX4_readStatement_194 rfl ?_
                  refine a_iload_n dX4_readStatement_196 rfl rfl ?_
                  refine a_iload_n dX4_readStatement_197 rfl rfl ?_
                  obtain ⟨q9, cq9, h⟩ := h_bindS h
                  refine a_callV1 [] yy_X4_readWays ml_4_117 (k_LT ht0) rfl (sLt_readWays rec Dr hrec _ (by omega) t0 ht0 q3.1 (st_mLt_add t0 ht0 v4x0 q3 cq3) v2 v3 I8 J B q9 cq9) rfl rfl (Nat.le_of_ble_eq_true rfl) dX4_readStatement_198 ?_
                  cases h
                  exact a_iret dX4_readStatement_201
                · replace h := h_iteF n264 h
                  refine a_tableOut (tgt := 202) dX4_readStatement_46 (h_tb258_7 n258 n259 n260 n261 n262 n263 n264) (by decide) ?_
                  refine a_iload_n dX4_readStatement_202 rfl rfl ?_
                  cases h
                  exact a_iret dX4_readStatement_203
  · replace h := h_iteT c h
    refine a_aload_n dX4_readStatement_16 rfl rfl ?_
    obtain ⟨q2, cq2, h⟩ := h_bindS h
    refine a_callV0 [] yy_X6_fail ml_4_93 kc_1 rfl (sRd_fail _ (by omega)  I J B q2 cq2) rfl rfl (Nat.le_of_ble_eq_true rfl) dX4_readStatement_17 ?_
    refine a_iload_n dX4_readStatement_20 rfl rfl ?_
    cases h
    exact a_iret dX4_readStatement_21
/-! CoinLoops$LoopText.readBlock(LCoinLoops$Reader;II)I -/
theorem dX4_readBlock_0 : decode cX4_readBlock 0 = .ok (.aload_n 1, 1) := by decide +kernel
theorem dX4_readBlock_1 : decode cX4_readBlock 1 = .ok (.getfield 90, 3) := by decide +kernel
theorem dX4_readBlock_4 : decode cX4_readBlock 4 = .ok (.bipush 123, 2) := by decide +kernel
theorem dX4_readBlock_6 : decode cX4_readBlock 6 = .ok (.if_icmp .ne 9, 3) := by decide +kernel
theorem dX4_readBlock_9 : decode cX4_readBlock 9 = .ok (.iload_n 2, 1) := by decide +kernel
theorem dX4_readBlock_10 : decode cX4_readBlock 10 = .ok (.bipush 6, 2) := by decide +kernel
theorem dX4_readBlock_12 : decode cX4_readBlock 12 = .ok (.if_icmp .le 9, 3) := by decide +kernel
theorem dX4_readBlock_15 : decode cX4_readBlock 15 = .ok (.aload_n 1, 1) := by decide +kernel
theorem dX4_readBlock_16 : decode cX4_readBlock 16 = .ok (.invokevirtual 93, 3) := by decide +kernel
theorem dX4_readBlock_19 : decode cX4_readBlock 19 = .ok (.iload_n 3, 1) := by decide +kernel
theorem dX4_readBlock_20 : decode cX4_readBlock 20 = .ok (.ireturn, 1) := by decide +kernel
theorem dX4_readBlock_21 : decode cX4_readBlock 21 = .ok (.aload_n 1, 1) := by decide +kernel
theorem dX4_readBlock_22 : decode cX4_readBlock 22 = .ok (.invokevirtual 96, 3) := by decide +kernel
theorem dX4_readBlock_25 : decode cX4_readBlock 25 = .ok (.iload_n 3, 1) := by decide +kernel
theorem dX4_readBlock_26 : decode cX4_readBlock 26 = .ok (.istore 4, 2) := by decide +kernel
theorem dX4_readBlock_28 : decode cX4_readBlock 28 = .ok (.aload_n 1, 1) := by decide +kernel
theorem dX4_readBlock_29 : decode cX4_readBlock 29 = .ok (.getfield 90, 3) := by decide +kernel
theorem dX4_readBlock_32 : decode cX4_readBlock 32 = .ok (.bipush 125, 2) := by decide +kernel
theorem dX4_readBlock_34 : decode cX4_readBlock 34 = .ok (.if_icmp .eq 7, 3) := by decide +kernel
theorem dX4_readBlock_37 : decode cX4_readBlock 37 = .ok (.iconst 1, 1) := by decide +kernel
theorem dX4_readBlock_38 : decode cX4_readBlock 38 = .ok (.goto 4, 3) := by decide +kernel
theorem dX4_readBlock_41 : decode cX4_readBlock 41 = .ok (.iconst 0, 1) := by decide +kernel
theorem dX4_readBlock_42 : decode cX4_readBlock 42 = .ok (.istore 5, 2) := by decide +kernel
theorem dX4_readBlock_44 : decode cX4_readBlock 44 = .ok (.iconst 0, 1) := by decide +kernel
theorem dX4_readBlock_45 : decode cX4_readBlock 45 = .ok (.istore 6, 2) := by decide +kernel
theorem dX4_readBlock_47 : decode cX4_readBlock 47 = .ok (.iload 6, 2) := by decide +kernel
theorem dX4_readBlock_49 : decode cX4_readBlock 49 = .ok (.bipush 24, 2) := by decide +kernel
theorem dX4_readBlock_51 : decode cX4_readBlock 51 = .ok (.if_icmp .gt 32, 3) := by decide +kernel
theorem dX4_readBlock_54 : decode cX4_readBlock 54 = .ok (.iload 5, 2) := by decide +kernel
theorem dX4_readBlock_56 : decode cX4_readBlock 56 = .ok (.ifCond .eq 27, 3) := by decide +kernel
theorem dX4_readBlock_59 : decode cX4_readBlock 59 = .ok (.aload_n 0, 1) := by decide +kernel
theorem dX4_readBlock_60 : decode cX4_readBlock 60 = .ok (.aload_n 1, 1) := by decide +kernel
theorem dX4_readBlock_61 : decode cX4_readBlock 61 = .ok (.iload_n 2, 1) := by decide +kernel
theorem dX4_readBlock_62 : decode cX4_readBlock 62 = .ok (.iload 4, 2) := by decide +kernel
theorem dX4_readBlock_64 : decode cX4_readBlock 64 = .ok (.invokevirtual 99, 3) := by decide +kernel
theorem dX4_readBlock_67 : decode cX4_readBlock 67 = .ok (.istore 4, 2) := by decide +kernel
theorem dX4_readBlock_69 : decode cX4_readBlock 69 = .ok (.aload_n 1, 1) := by decide +kernel
theorem dX4_readBlock_70 : decode cX4_readBlock 70 = .ok (.bipush 59, 2) := by decide +kernel
theorem dX4_readBlock_72 : decode cX4_readBlock 72 = .ok (.invokevirtual 49, 3) := by decide +kernel
theorem dX4_readBlock_75 : decode cX4_readBlock 75 = .ok (.istore 5, 2) := by decide +kernel
theorem dX4_readBlock_77 : decode cX4_readBlock 77 = .ok (.iinc 6 1, 3) := by decide +kernel
theorem dX4_readBlock_80 : decode cX4_readBlock 80 = .ok (.goto (-33), 3) := by decide +kernel
theorem dX4_readBlock_83 : decode cX4_readBlock 83 = .ok (.aload_n 1, 1) := by decide +kernel
theorem dX4_readBlock_84 : decode cX4_readBlock 84 = .ok (.bipush 125, 2) := by decide +kernel
theorem dX4_readBlock_86 : decode cX4_readBlock 86 = .ok (.invokevirtual 37, 3) := by decide +kernel
theorem dX4_readBlock_89 : decode cX4_readBlock 89 = .ok (.iload 4, 2) := by decide +kernel
theorem dX4_readBlock_91 : decode cX4_readBlock 91 = .ok (.ireturn, 1) := by decide +kernel
def mLt_readBlock_83 (rec : Nat → Int32 → Int32 → hI → Option (Int32 × hI))  (v4 : Int32) (I : hI) : Option (Int32 × hI) :=
  (mRd_take (125 : Int32) I).bind fun q1 =>
  some (v4, q1)
set_option maxHeartbeats 4000000 in
theorem sLt_readBlock_83 (rec : Nat → Int32 → Int32 → hI → Option (Int32 × hI)) (Dr : Nat) (hrec : ∀ d, Dr ≤ d → ∀ (t0 : Nat) (ht0 : h_LT t0) (v2 : Int32) (v3 : Int32) (I : hI) (J : hJ) (B : Bool × Bool) (q : Int32 × hI), rec t0 v2 v3 I = some q → HMet hFT yX4_readBlock cX4_readBlock 7 (some .int) kdC d [.ref t0, .ref 1, .int v2, .int v3] (I, J, RM B) (some (.int q.1)) (q.2, J, RM B)) (d : Nat) (hd : (Dr + 4) + 1 ≤ d) (v4 : Int32) (I : hI) (J : hJ) (B : Bool × Bool) (q : Int32 × hI) (h : mLt_readBlock_83 rec v4 I = some q) : AW hFT cX4_readBlock 7 (some .int) RX4 kdC d [(1, .ref 1), (4, .int v4)] 83 [] (I, J, RM B) (some (.int q.1)) (q.2, J, RM B) := by
  obtain ⟨d0, rfl, hd0⟩ := h_mono hd
  unfold mLt_readBlock_83 at h
  refine a_aload_n dX4_readBlock_83 rfl rfl ?_
  refine a_bipush dX4_readBlock_84 bp_125 ?_
  obtain ⟨q1, cq1, h⟩ := h_bindS h
  refine a_callV0 [] yy_X6_take ml_4_37 kc_1 rfl (sRd_take _ (by omega) (125 : Int32) I J B q1 cq1) rfl rfl (Nat.le_of_ble_eq_true rfl) dX4_readBlock_86 ?_
  refine a_iload dX4_readBlock_89 rfl ?_
  cases h
  exact a_iret dX4_readBlock_91
def mLt_readBlock_B47 (rec : Nat → Int32 → Int32 → hI → Option (Int32 × hI)) (k47 : Nat → Int32 → Int32 → Int32 → Int32 → hI → Option (Int32 × hI)) (t0 : Nat) (v2 : Int32) (v4 : Int32) (v5 : Int32) (v6 : Int32) (I : hI) : Option (Int32 × hI) :=
  if (24 : Int32) < v6 then
    mLt_readBlock_83 rec v4 I
  else
    (if v5 = 0 then
      mLt_readBlock_83 rec v4 I
    else
      ((mLt_readStatement rec t0 v2 v4 I).bind fun q1 =>
      h_let q1.1 fun v4x1 =>
      (mRd_skip (59 : Int32) q1.2).bind fun q3 =>
      h_let q3.1 fun v5x3 =>
      k47 t0 v2 v4x1 v5x3 (v6 + (1 : Int32)) q3.2))
set_option maxHeartbeats 4000000 in
theorem sLt_readBlock_B47 (rec : Nat → Int32 → Int32 → hI → Option (Int32 × hI)) (Dr : Nat) (hrec : ∀ d, Dr ≤ d → ∀ (t0 : Nat) (ht0 : h_LT t0) (v2 : Int32) (v3 : Int32) (I : hI) (J : hJ) (B : Bool × Bool) (q : Int32 × hI), rec t0 v2 v3 I = some q → HMet hFT yX4_readBlock cX4_readBlock 7 (some .int) kdC d [.ref t0, .ref 1, .int v2, .int v3] (I, J, RM B) (some (.int q.1)) (q.2, J, RM B)) (d : Nat) (hd : (Dr + 4) + 1 ≤ d) (k47 : Nat → Int32 → Int32 → Int32 → Int32 → hI → Option (Int32 × hI)) (hk47 : ∀ (t0 : Nat) (ht0 : h_LT t0) (v2 : Int32) (v4 : Int32) (v5 : Int32) (v6 : Int32) (I : hI) (J : hJ) (B : Bool × Bool) (q : Int32 × hI), k47 t0 v2 v4 v5 v6 I = some q → AW hFT cX4_readBlock 7 (some .int) RX4 kdC d [(0, .ref t0), (1, .ref 1), (2, .int v2), (4, .int v4), (5, .int v5), (6, .int v6)] 47 [] (I, J, RM B) (some (.int q.1)) (q.2, J, RM B)) (t0 : Nat) (ht0 : h_LT t0) (v2 : Int32) (v4 : Int32) (v5 : Int32) (v6 : Int32) (I : hI) (J : hJ) (B : Bool × Bool) (q : Int32 × hI) (h : mLt_readBlock_B47 rec k47 t0 v2 v4 v5 v6 I = some q) : AW hFT cX4_readBlock 7 (some .int) RX4 kdC d [(0, .ref t0), (1, .ref 1), (2, .int v2), (4, .int v4), (5, .int v5), (6, .int v6)] 47 [] (I, J, RM B) (some (.int q.1)) (q.2, J, RM B) := by
  obtain ⟨d0, rfl, hd0⟩ := h_mono hd
  unfold mLt_readBlock_B47 at h
  refine a_iload dX4_readBlock_47 rfl ?_
  refine a_bipush dX4_readBlock_49 bp_24 ?_
  refine a_icmp_gt (tgt := 83) dX4_readBlock_51 (by decide) (fun c => ?_) (fun c => ?_)
  · replace h := h_iteT c h
    refine a_sub (lv' := [(1, .ref 1), (4, .int v4)]) [1, 3] rfl ?_
    exact sLt_readBlock_83 rec Dr hrec (d0 + 1) (by omega) v4 I J B _ h
  · replace h := h_iteF c h
    refine a_iload dX4_readBlock_54 rfl ?_
    refine a_if_eq (tgt := 83) dX4_readBlock_56 (by decide) (fun c => ?_) (fun c => ?_)
    · replace h := h_iteT c h
      refine a_sub (lv' := [(1, .ref 1), (4, .int v4)]) [1, 3] rfl ?_
      exact sLt_readBlock_83 rec Dr hrec (d0 + 1) (by omega) v4 I J B _ h
    · replace h := h_iteF c h
      refine a_aload_n dX4_readBlock_59 rfl rfl ?_
      refine a_aload_n dX4_readBlock_60 rfl rfl ?_
      refine a_iload_n dX4_readBlock_61 rfl rfl ?_
      refine a_iload dX4_readBlock_62 rfl ?_
      obtain ⟨q1, cq1, h⟩ := h_bindS h
      refine a_callV1 [] yy_X4_readStatement ml_4_99 (k_LT ht0) rfl (sLt_readStatement rec Dr hrec _ (by omega) t0 ht0 v2 v4 I J B q1 cq1) rfl rfl (Nat.le_of_ble_eq_true rfl) dX4_readBlock_64 ?_
      obtain ⟨v4x1, ev4x1, h⟩ := h_letS h
      refine a_topI ev4x1 ?_
      refine a_istore (lv' := [(4, .int v4x1), (0, .ref t0), (1, .ref 1), (2, .int v2), (5, .int v5), (6, .int v6)]) dX4_readBlock_67 (by decide) rfl ?_
      refine a_aload_n dX4_readBlock_69 rfl rfl ?_
      refine a_bipush dX4_readBlock_70 bp_59 ?_
      obtain ⟨q3, cq3, h⟩ := h_bindS h
      refine a_callV1 [] yy_X6_skip ml_4_49 kc_1 rfl (sRd_skip _ (by omega) (59 : Int32) q1.2 J B q3 cq3) rfl rfl (Nat.le_of_ble_eq_true rfl) dX4_readBlock_72 ?_
      obtain ⟨v5x3, ev5x3, h⟩ := h_letS h
      refine a_topI ev5x3 ?_
      refine a_istore (lv' := [(5, .int v5x3), (4, .int v4x1), (0, .ref t0), (1, .ref 1), (2, .int v2), (6, .int v6)]) dX4_readBlock_75 (by decide) rfl ?_
      refine b_iinc (lv' := [(6, .int (v6 + (1 : Int32))), (5, .int v5x3), (4, .int v4x1), (0, .ref t0), (1, .ref 1), (2, .int v2)]) dX4_readBlock_77 rfl ic_1 (by decide) rfl ?_
      refine a_goto (tgt := 47) dX4_readBlock_80 (by decide) ?_
      refine a_sub (lv' := [(0, .ref t0), (1, .ref 1), (2, .int v2), (4, .int v4x1), (5, .int v5x3), (6, .int (v6 + (1 : Int32)))]) [3, 4, 5, 2, 1, 0] rfl ?_
      exact hk47 t0 ht0 v2 v4x1 v5x3 (v6 + (1 : Int32)) q3.2 J B _ h
def mLt_readBlock_L47 (rec : Nat → Int32 → Int32 → hI → Option (Int32 × hI))  : Nat → Nat → Int32 → Int32 → Int32 → Int32 → hI → Option (Int32 × hI)
  | 0 => fun _ _ _ _ _ _ => none
  | n + 1 => mLt_readBlock_B47 rec (mLt_readBlock_L47 rec n)
theorem sLt_readBlock_L47 (rec : Nat → Int32 → Int32 → hI → Option (Int32 × hI)) (Dr : Nat) (hrec : ∀ d, Dr ≤ d → ∀ (t0 : Nat) (ht0 : h_LT t0) (v2 : Int32) (v3 : Int32) (I : hI) (J : hJ) (B : Bool × Bool) (q : Int32 × hI), rec t0 v2 v3 I = some q → HMet hFT yX4_readBlock cX4_readBlock 7 (some .int) kdC d [.ref t0, .ref 1, .int v2, .int v3] (I, J, RM B) (some (.int q.1)) (q.2, J, RM B)) (d : Nat) (hd : (Dr + 4) + 1 ≤ d) : ∀ (n : Nat) (t0 : Nat) (ht0 : h_LT t0) (v2 : Int32) (v4 : Int32) (v5 : Int32) (v6 : Int32) (I : hI) (J : hJ) (B : Bool × Bool) (q : Int32 × hI) (h : mLt_readBlock_L47 rec n t0 v2 v4 v5 v6 I = some q), AW hFT cX4_readBlock 7 (some .int) RX4 kdC d [(0, .ref t0), (1, .ref 1), (2, .int v2), (4, .int v4), (5, .int v5), (6, .int v6)] 47 [] (I, J, RM B) (some (.int q.1)) (q.2, J, RM B)
  | 0, _, _, _, _, _, _, _, _, _, q, h => by cases h
  | n + 1, t0, ht0, v2, v4, v5, v6, I, J, B, q, h => sLt_readBlock_B47 rec Dr hrec d hd (mLt_readBlock_L47 rec n) (sLt_readBlock_L47 rec Dr hrec d hd n) t0 ht0 v2 v4 v5 v6 I J B q h
def mLt_readBlock_15 (rec : Nat → Int32 → Int32 → hI → Option (Int32 × hI))  (v3 : Int32) (I : hI) : Option (Int32 × hI) :=
  (mRd_fail I).bind fun q1 =>
  some (v3, q1)
set_option maxHeartbeats 4000000 in
theorem sLt_readBlock_15 (rec : Nat → Int32 → Int32 → hI → Option (Int32 × hI)) (Dr : Nat) (hrec : ∀ d, Dr ≤ d → ∀ (t0 : Nat) (ht0 : h_LT t0) (v2 : Int32) (v3 : Int32) (I : hI) (J : hJ) (B : Bool × Bool) (q : Int32 × hI), rec t0 v2 v3 I = some q → HMet hFT yX4_readBlock cX4_readBlock 7 (some .int) kdC d [.ref t0, .ref 1, .int v2, .int v3] (I, J, RM B) (some (.int q.1)) (q.2, J, RM B)) (d : Nat) (hd : (Dr + 4) + 1 ≤ d) (v3 : Int32) (I : hI) (J : hJ) (B : Bool × Bool) (q : Int32 × hI) (h : mLt_readBlock_15 rec v3 I = some q) : AW hFT cX4_readBlock 7 (some .int) RX4 kdC d [(1, .ref 1), (3, .int v3)] 15 [] (I, J, RM B) (some (.int q.1)) (q.2, J, RM B) := by
  obtain ⟨d0, rfl, hd0⟩ := h_mono hd
  unfold mLt_readBlock_15 at h
  refine a_aload_n dX4_readBlock_15 rfl rfl ?_
  obtain ⟨q1, cq1, h⟩ := h_bindS h
  refine a_callV0 [] yy_X6_fail ml_4_93 kc_1 rfl (sRd_fail _ (by omega)  I J B q1 cq1) rfl rfl (Nat.le_of_ble_eq_true rfl) dX4_readBlock_16 ?_
  refine a_iload_n dX4_readBlock_19 rfl rfl ?_
  cases h
  exact a_iret dX4_readBlock_20
def mLt_readBlock_B (rec : Nat → Int32 → Int32 → hI → Option (Int32 × hI))  (t0 : Nat) (v2 : Int32) (v3 : Int32) (I : hI) : Option (Int32 × hI) :=
  if (I 1 7) = (123 : Int32) then
    (if v2 ≤ (6 : Int32) then
      ((mRd_next I).bind fun q1 =>
      if (q1 1 7) = (125 : Int32) then
        mLt_readBlock_L47 rec hF t0 v2 v3 (0 : Int32) (0 : Int32) q1
      else
        mLt_readBlock_L47 rec hF t0 v2 v3 (1 : Int32) (0 : Int32) q1)
    else
      mLt_readBlock_15 rec v3 I)
  else
    mLt_readBlock_15 rec v3 I
set_option maxHeartbeats 4000000 in
theorem sLt_readBlock_B (rec : Nat → Int32 → Int32 → hI → Option (Int32 × hI)) (Dr : Nat) (hrec : ∀ d, Dr ≤ d → ∀ (t0 : Nat) (ht0 : h_LT t0) (v2 : Int32) (v3 : Int32) (I : hI) (J : hJ) (B : Bool × Bool) (q : Int32 × hI), rec t0 v2 v3 I = some q → HMet hFT yX4_readBlock cX4_readBlock 7 (some .int) kdC d [.ref t0, .ref 1, .int v2, .int v3] (I, J, RM B) (some (.int q.1)) (q.2, J, RM B)) (d : Nat) (hd : (Dr + 4) + 1 ≤ d) (t0 : Nat) (ht0 : h_LT t0) (v2 : Int32) (v3 : Int32) (I : hI) (J : hJ) (B : Bool × Bool) (q : Int32 × hI) (h : mLt_readBlock_B rec t0 v2 v3 I = some q) : HMet hFT yX4_readBlock cX4_readBlock 7 (some .int) kdC d [.ref t0, .ref 1, .int v2, .int v3] (I, J, RM B) (some (.int q.1)) (q.2, J, RM B) := by
  obtain ⟨d0, rfl, hd0⟩ := h_mono hd
  refine HMet.of (by decide) (Nat.le_of_ble_eq_true rfl) ?_
  show AW hFT cX4_readBlock 7 (some .int) RX4 kdC (d0 + 1) [(0, .ref t0), (1, .ref 1), (2, .int v2), (3, .int v3)] 0 [] (I, J, RM B) (some (.int q.1)) (q.2, J, RM B)
  unfold mLt_readBlock_B at h
  refine a_aload_n dX4_readBlock_0 rfl rfl ?_
  refine b_getI hK_6 kc_1 (i := 7) rfl fl_4_90 rfl dX4_readBlock_1 ?_
  refine a_bipush dX4_readBlock_4 bp_123 ?_
  refine a_icmp_ne (tgt := 15) dX4_readBlock_6 (by decide) (fun c => ?_) (fun c => ?_)
  · replace h := h_iteF c h
    refine a_sub (lv' := [(1, .ref 1), (3, .int v3)]) [1, 3] rfl ?_
    exact sLt_readBlock_15 rec Dr hrec (d0 + 1) (by omega) v3 I J B _ h
  · replace h := h_iteT c h
    refine a_iload_n dX4_readBlock_9 rfl rfl ?_
    refine a_bipush dX4_readBlock_10 bp_6 ?_
    refine a_icmp_le (tgt := 21) dX4_readBlock_12 (by decide) (fun c => ?_) (fun c => ?_)
    · replace h := h_iteT c h
      refine a_aload_n dX4_readBlock_21 rfl rfl ?_
      obtain ⟨q1, cq1, h⟩ := h_bindS h
      refine a_callV0 [] yy_X6_next ml_4_96 kc_1 rfl (sRd_next _ (by omega)  I J B q1 cq1) rfl rfl (Nat.le_of_ble_eq_true rfl) dX4_readBlock_22 ?_
      refine a_iload_n dX4_readBlock_25 rfl rfl ?_
      refine a_istore (lv' := [(4, .int v3), (0, .ref t0), (1, .ref 1), (2, .int v2), (3, .int v3)]) dX4_readBlock_26 (by decide) rfl ?_
      refine a_aload_n dX4_readBlock_28 rfl rfl ?_
      refine b_getI hK_6 kc_1 (i := 7) rfl fl_4_90 rfl dX4_readBlock_29 ?_
      refine a_bipush dX4_readBlock_32 bp_125 ?_
      refine a_icmp_eq (tgt := 41) dX4_readBlock_34 (by decide) (fun c => ?_) (fun c => ?_)
      · replace h := h_iteT c h
        refine a_iconst dX4_readBlock_41 ic_0 ?_
        refine a_istore (lv' := [(5, .int (0 : Int32)), (4, .int v3), (0, .ref t0), (1, .ref 1), (2, .int v2), (3, .int v3)]) dX4_readBlock_42 (by decide) rfl ?_
        refine a_iconst dX4_readBlock_44 ic_0 ?_
        refine a_istore (lv' := [(6, .int (0 : Int32)), (5, .int (0 : Int32)), (4, .int v3), (0, .ref t0), (1, .ref 1), (2, .int v2), (3, .int v3)]) dX4_readBlock_45 (by decide) rfl ?_
        refine a_sub (lv' := [(0, .ref t0), (1, .ref 1), (2, .int v2), (4, .int v3), (5, .int (0 : Int32)), (6, .int (0 : Int32))]) [3, 4, 5, 2, 1, 0] rfl ?_
        exact sLt_readBlock_L47 rec Dr hrec (d0 + 1) (by omega) hF t0 ht0 v2 v3 (0 : Int32) (0 : Int32) q1 J B _ h
      · replace h := h_iteF c h
        refine a_iconst dX4_readBlock_37 ic_1 ?_
        refine a_goto (tgt := 42) dX4_readBlock_38 (by decide) ?_
        refine a_istore (lv' := [(5, .int (1 : Int32)), (4, .int v3), (0, .ref t0), (1, .ref 1), (2, .int v2), (3, .int v3)]) dX4_readBlock_42 (by decide) rfl ?_
        refine a_iconst dX4_readBlock_44 ic_0 ?_
        refine a_istore (lv' := [(6, .int (0 : Int32)), (5, .int (1 : Int32)), (4, .int v3), (0, .ref t0), (1, .ref 1), (2, .int v2), (3, .int v3)]) dX4_readBlock_45 (by decide) rfl ?_
        refine a_sub (lv' := [(0, .ref t0), (1, .ref 1), (2, .int v2), (4, .int v3), (5, .int (1 : Int32)), (6, .int (0 : Int32))]) [3, 4, 5, 2, 1, 0] rfl ?_
        exact sLt_readBlock_L47 rec Dr hrec (d0 + 1) (by omega) hF t0 ht0 v2 v3 (1 : Int32) (0 : Int32) q1 J B _ h
    · replace h := h_iteF c h
      refine a_sub (lv' := [(1, .ref 1), (3, .int v3)]) [1, 3] rfl ?_
      exact sLt_readBlock_15 rec Dr hrec (d0 + 1) (by omega) v3 I J B _ h
def mLt_readBlock : Nat → Nat → Int32 → Int32 → hI → Option (Int32 × hI)
  | 0 => fun _ _ _ _ => none
  | n + 1 => mLt_readBlock_B (mLt_readBlock n)
theorem sLt_readBlock : ∀ (n d : Nat), 5 * n + 1 ≤ d → ∀ (t0 : Nat) (ht0 : h_LT t0) (v2 : Int32) (v3 : Int32) (I : hI) (J : hJ) (B : Bool × Bool) (q : Int32 × hI), mLt_readBlock n t0 v2 v3 I = some q → HMet hFT yX4_readBlock cX4_readBlock 7 (some .int) kdC d [.ref t0, .ref 1, .int v2, .int v3] (I, J, RM B) (some (.int q.1)) (q.2, J, RM B)
  | 0, d, hd, _, _, _, _, _, _, _, q, h => by cases h
  | n + 1, d, hd, t0, ht0, v2, v3, I, J, B, q, h => sLt_readBlock_B (mLt_readBlock n) (5 * n + 1) (fun d hd => sLt_readBlock n d hd) d (by omega) t0 ht0 v2 v3 I J B q h
/-! CoinLoops$LoopText.readFrom(LCoinLoops$Reader;)I -/
theorem dX4_readFrom_0 : decode cX4_readFrom 0 = .ok (.aload_n 0, 1) := by decide +kernel
theorem dX4_readFrom_1 : decode cX4_readFrom 1 = .ok (.invokevirtual 29, 3) := by decide +kernel
theorem dX4_readFrom_4 : decode cX4_readFrom 4 = .ok (.aload_n 1, 1) := by decide +kernel
theorem dX4_readFrom_5 : decode cX4_readFrom 5 = .ok (.invokevirtual 32, 3) := by decide +kernel
theorem dX4_readFrom_8 : decode cX4_readFrom 8 = .ok (.aload_n 1, 1) := by decide +kernel
theorem dX4_readFrom_9 : decode cX4_readFrom 9 = .ok (.sipush 258, 3) := by decide +kernel
theorem dX4_readFrom_12 : decode cX4_readFrom 12 = .ok (.invokevirtual 37, 3) := by decide +kernel
theorem dX4_readFrom_15 : decode cX4_readFrom 15 = .ok (.aload_n 0, 1) := by decide +kernel
theorem dX4_readFrom_16 : decode cX4_readFrom 16 = .ok (.aload_n 1, 1) := by decide +kernel
theorem dX4_readFrom_17 : decode cX4_readFrom 17 = .ok (.iconst 0, 1) := by decide +kernel
theorem dX4_readFrom_18 : decode cX4_readFrom 18 = .ok (.bipush 9, 2) := by decide +kernel
theorem dX4_readFrom_20 : decode cX4_readFrom 20 = .ok (.invokevirtual 41, 3) := by decide +kernel
theorem dX4_readFrom_23 : decode cX4_readFrom 23 = .ok (.putfield 45, 3) := by decide +kernel
theorem dX4_readFrom_26 : decode cX4_readFrom 26 = .ok (.aload_n 1, 1) := by decide +kernel
theorem dX4_readFrom_27 : decode cX4_readFrom 27 = .ok (.bipush 59, 2) := by decide +kernel
theorem dX4_readFrom_29 : decode cX4_readFrom 29 = .ok (.invokevirtual 37, 3) := by decide +kernel
theorem dX4_readFrom_32 : decode cX4_readFrom 32 = .ok (.aload_n 1, 1) := by decide +kernel
theorem dX4_readFrom_33 : decode cX4_readFrom 33 = .ok (.sipush 259, 3) := by decide +kernel
theorem dX4_readFrom_36 : decode cX4_readFrom 36 = .ok (.invokevirtual 49, 3) := by decide +kernel
theorem dX4_readFrom_39 : decode cX4_readFrom 39 = .ok (.ifCond .eq 29, 3) := by decide +kernel
theorem dX4_readFrom_42 : decode cX4_readFrom 42 = .ok (.aload_n 0, 1) := by decide +kernel
theorem dX4_readFrom_43 : decode cX4_readFrom 43 = .ok (.aload_n 1, 1) := by decide +kernel
theorem dX4_readFrom_44 : decode cX4_readFrom 44 = .ok (.iconst 0, 1) := by decide +kernel
theorem dX4_readFrom_45 : decode cX4_readFrom 45 = .ok (.bipush 10, 2) := by decide +kernel
theorem dX4_readFrom_47 : decode cX4_readFrom 47 = .ok (.aload_n 0, 1) := by decide +kernel
theorem dX4_readFrom_48 : decode cX4_readFrom 48 = .ok (.getfield 45, 3) := by decide +kernel
theorem dX4_readFrom_51 : decode cX4_readFrom 51 = .ok (.iconst 1, 1) := by decide +kernel
theorem dX4_readFrom_52 : decode cX4_readFrom 52 = .ok (.iadd, 1) := by decide +kernel
theorem dX4_readFrom_53 : decode cX4_readFrom 53 = .ok (.idiv, 1) := by decide +kernel
theorem dX4_readFrom_54 : decode cX4_readFrom 54 = .ok (.iconst 1, 1) := by decide +kernel
theorem dX4_readFrom_55 : decode cX4_readFrom 55 = .ok (.isub, 1) := by decide +kernel
theorem dX4_readFrom_56 : decode cX4_readFrom 56 = .ok (.invokevirtual 41, 3) := by decide +kernel
theorem dX4_readFrom_59 : decode cX4_readFrom 59 = .ok (.putfield 53, 3) := by decide +kernel
theorem dX4_readFrom_62 : decode cX4_readFrom 62 = .ok (.aload_n 1, 1) := by decide +kernel
theorem dX4_readFrom_63 : decode cX4_readFrom 63 = .ok (.bipush 59, 2) := by decide +kernel
theorem dX4_readFrom_65 : decode cX4_readFrom 65 = .ok (.invokevirtual 37, 3) := by decide +kernel
theorem dX4_readFrom_68 : decode cX4_readFrom 68 = .ok (.aload_n 1, 1) := by decide +kernel
theorem dX4_readFrom_69 : decode cX4_readFrom 69 = .ok (.sipush 260, 3) := by decide +kernel
theorem dX4_readFrom_72 : decode cX4_readFrom 72 = .ok (.invokevirtual 37, 3) := by decide +kernel
theorem dX4_readFrom_75 : decode cX4_readFrom 75 = .ok (.aload_n 1, 1) := by decide +kernel
theorem dX4_readFrom_76 : decode cX4_readFrom 76 = .ok (.invokevirtual 56, 3) := by decide +kernel
theorem dX4_readFrom_79 : decode cX4_readFrom 79 = .ok (.aload_n 1, 1) := by decide +kernel
theorem dX4_readFrom_80 : decode cX4_readFrom 80 = .ok (.aload_n 0, 1) := by decide +kernel
theorem dX4_readFrom_81 : decode cX4_readFrom 81 = .ok (.getfield 12, 3) := by decide +kernel
theorem dX4_readFrom_84 : decode cX4_readFrom 84 = .ok (.invokevirtual 59, 3) := by decide +kernel
theorem dX4_readFrom_87 : decode cX4_readFrom 87 = .ok (.aload_n 0, 1) := by decide +kernel
theorem dX4_readFrom_88 : decode cX4_readFrom 88 = .ok (.aload_n 0, 1) := by decide +kernel
theorem dX4_readFrom_89 : decode cX4_readFrom 89 = .ok (.getfield 12, 3) := by decide +kernel
theorem dX4_readFrom_92 : decode cX4_readFrom 92 = .ok (.getfield 63, 3) := by decide +kernel
theorem dX4_readFrom_95 : decode cX4_readFrom 95 = .ok (.putfield 66, 3) := by decide +kernel
theorem dX4_readFrom_98 : decode cX4_readFrom 98 = .ok (.aload_n 0, 1) := by decide +kernel
theorem dX4_readFrom_99 : decode cX4_readFrom 99 = .ok (.aload_n 1, 1) := by decide +kernel
theorem dX4_readFrom_100 : decode cX4_readFrom 100 = .ok (.iconst 1, 1) := by decide +kernel
theorem dX4_readFrom_101 : decode cX4_readFrom 101 = .ok (.iconst 0, 1) := by decide +kernel
theorem dX4_readFrom_102 : decode cX4_readFrom 102 = .ok (.invokevirtual 69, 3) := by decide +kernel
theorem dX4_readFrom_105 : decode cX4_readFrom 105 = .ok (.pop, 1) := by decide +kernel
theorem dX4_readFrom_106 : decode cX4_readFrom 106 = .ok (.aload_n 1, 1) := by decide +kernel
theorem dX4_readFrom_107 : decode cX4_readFrom 107 = .ok (.invokevirtual 73, 3) := by decide +kernel
theorem dX4_readFrom_110 : decode cX4_readFrom 110 = .ok (.ireturn, 1) := by decide +kernel
def mLt_readFrom_68  (t0 : Nat) (I : hI) : Option (Int32 × hI) :=
  (mRd_take (260 : Int32) I).bind fun q1 =>
  (mRd_readSum q1).bind fun q2 =>
  (mRd_readCondition (t0 + 1) q2).bind fun q3 =>
  h_let (h_u q3 t0 6 (q3 (t0 + 1) 5)) fun I4 =>
  (mLt_readBlock 10 t0 (1 : Int32) (0 : Int32) I4).bind fun q5 =>
  (mRd_close q5.2).bind fun q6 =>
  some (q6.1, q6.2)
set_option maxHeartbeats 4000000 in
theorem sLt_readFrom_68 (d : Nat) (hd : 51 + 1 ≤ d) (t0 : Nat) (ht0 : h_LT t0) (I : hI) (J : hJ) (B : Bool × Bool) (q : Int32 × hI) (h : mLt_readFrom_68 t0 I = some q) : AW hFT cX4_readFrom 2 (some .int) RX4 kdC d [(0, .ref t0), (1, .ref 1)] 68 [] (I, J, RM B) (some (.int q.1)) (q.2, J, RM B) := by
  obtain ⟨d0, rfl, hd0⟩ := h_mono hd
  unfold mLt_readFrom_68 at h
  refine a_aload_n dX4_readFrom_68 rfl rfl ?_
  refine a_sipush dX4_readFrom_69 sq_260 ?_
  obtain ⟨q1, cq1, h⟩ := h_bindS h
  refine a_callV0 [] yy_X6_take ml_4_37 kc_1 rfl (sRd_take _ (by omega) (260 : Int32) I J B q1 cq1) rfl rfl (Nat.le_of_ble_eq_true rfl) dX4_readFrom_72 ?_
  refine a_aload_n dX4_readFrom_75 rfl rfl ?_
  obtain ⟨q2, cq2, h⟩ := h_bindS h
  refine a_callV0 [] yy_X6_readSum ml_4_56 kc_1 rfl (sRd_readSum _ (by omega)  q1 J B q2 cq2) rfl rfl (Nat.le_of_ble_eq_true rfl) dX4_readFrom_76 ?_
  refine a_aload_n dX4_readFrom_79 rfl rfl ?_
  refine a_aload_n dX4_readFrom_80 rfl rfl ?_
  refine b_getR hK_4 (k_LT ht0) (i := 0) rfl fl_4_12 rfl (rm_LT_0 B ht0) dX4_readFrom_81 ?_
  obtain ⟨q3, cq3, h⟩ := h_bindS h
  refine a_callV0 [] yy_X6_readCondition ml_4_59 kc_1 rfl (sRd_readCondition _ (by omega) (t0 + 1) (cd_LT ht0) q2 J B q3 cq3) rfl rfl (Nat.le_of_ble_eq_true rfl) dX4_readFrom_84 ?_
  refine a_aload_n dX4_readFrom_87 rfl rfl ?_
  refine a_aload_n dX4_readFrom_88 rfl rfl ?_
  refine b_getR hK_4 (k_LT ht0) (i := 0) rfl fl_4_12 rfl (rm_LT_0 B ht0) dX4_readFrom_89 ?_
  refine b_getI hK_0 (k_CD (cd_LT ht0)) (i := 5) rfl fl_4_63 rfl dX4_readFrom_92 ?_
  refine b_putI hK_4 (k_LT ht0) (i := 6) rfl fl_4_66 rfl rfl (h_NI _) dX4_readFrom_95 ?_
  obtain ⟨I4, eI4, h⟩ := h_letS h
  refine a_memI eI4 ?_
  refine a_aload_n dX4_readFrom_98 rfl rfl ?_
  refine a_aload_n dX4_readFrom_99 rfl rfl ?_
  refine a_iconst dX4_readFrom_100 ic_1 ?_
  refine a_iconst dX4_readFrom_101 ic_0 ?_
  obtain ⟨q5, cq5, h⟩ := h_bindS h
  refine a_callV1 [] yy_X4_readBlock ml_4_69 (k_LT ht0) rfl (sLt_readBlock 10 _ (by omega) t0 ht0 (1 : Int32) (0 : Int32) I4 J B q5 cq5) rfl rfl (Nat.le_of_ble_eq_true rfl) dX4_readFrom_102 ?_
  refine a_pop dX4_readFrom_105 rfl ?_
  refine a_aload_n dX4_readFrom_106 rfl rfl ?_
  obtain ⟨q6, cq6, h⟩ := h_bindS h
  refine a_callV1 [] yy_X6_close ml_4_73 kc_1 rfl (sRd_close _ (by omega)  q5.2 J B q6 cq6) rfl rfl (Nat.le_of_ble_eq_true rfl) dX4_readFrom_107 ?_
  cases h
  exact a_iret dX4_readFrom_110
def mLt_readFrom  (t0 : Nat) (I : hI) : Option (Int32 × hI) :=
  h_let (mLt_clear t0 I) fun q1 =>
  (mRd_open q1).bind fun q2 =>
  (mRd_take (258 : Int32) q2).bind fun q3 =>
  (mRd_takeNumber (0 : Int32) (9 : Int32) q3).bind fun q4 =>
  h_let (h_u q4.2 t0 4 q4.1) fun I5 =>
  (mRd_take (59 : Int32) I5).bind fun q6 =>
  (mRd_skip (259 : Int32) q6).bind fun q7 =>
  if q7.1 = 0 then
    mLt_readFrom_68 t0 q7.2
  else
    (h_g (h_nz ((q7.2 t0 4) + (1 : Int32))) <|
    (mRd_takeNumber (0 : Int32) (((10 : Int32) / ((q7.2 t0 4) + (1 : Int32))) - (1 : Int32)) q7.2).bind fun q9 =>
    h_let (h_u q9.2 t0 5 q9.1) fun I10 =>
    (mRd_take (59 : Int32) I10).bind fun q11 =>
    mLt_readFrom_68 t0 q11)
set_option maxHeartbeats 4000000 in
theorem sLt_readFrom (d : Nat) (hd : 51 + 1 ≤ d) (t0 : Nat) (ht0 : h_LT t0) (I : hI) (J : hJ) (B : Bool × Bool) (q : Int32 × hI) (h : mLt_readFrom t0 I = some q) : HMet hFT yX4_readFrom cX4_readFrom 2 (some .int) kdC d [.ref t0, .ref 1] (I, J, RM B) (some (.int q.1)) (q.2, J, RM B) := by
  obtain ⟨d0, rfl, hd0⟩ := h_mono hd
  refine HMet.of (by decide) (Nat.le_of_ble_eq_true rfl) ?_
  show AW hFT cX4_readFrom 2 (some .int) RX4 kdC (d0 + 1) [(0, .ref t0), (1, .ref 1)] 0 [] (I, J, RM B) (some (.int q.1)) (q.2, J, RM B)
  unfold mLt_readFrom at h
  refine a_aload_n dX4_readFrom_0 rfl rfl ?_
  obtain ⟨q1, cq1, h⟩ := h_letS h
  refine a_callV0 [] yy_X4_clear ml_4_29 (k_LT ht0) rfl (sLt_clear _ (by omega) t0 ht0 I J B q1 cq1) rfl rfl (Nat.le_of_ble_eq_true rfl) dX4_readFrom_1 ?_
  refine a_aload_n dX4_readFrom_4 rfl rfl ?_
  obtain ⟨q2, cq2, h⟩ := h_bindS h
  refine a_callV0 [] yy_X6_open ml_4_32 kc_1 rfl (sRd_open _ (by omega)  q1 J B q2 cq2) rfl rfl (Nat.le_of_ble_eq_true rfl) dX4_readFrom_5 ?_
  refine a_aload_n dX4_readFrom_8 rfl rfl ?_
  refine a_sipush dX4_readFrom_9 sq_258 ?_
  obtain ⟨q3, cq3, h⟩ := h_bindS h
  refine a_callV0 [] yy_X6_take ml_4_37 kc_1 rfl (sRd_take _ (by omega) (258 : Int32) q2 J B q3 cq3) rfl rfl (Nat.le_of_ble_eq_true rfl) dX4_readFrom_12 ?_
  refine a_aload_n dX4_readFrom_15 rfl rfl ?_
  refine a_aload_n dX4_readFrom_16 rfl rfl ?_
  refine a_iconst dX4_readFrom_17 ic_0 ?_
  refine a_bipush dX4_readFrom_18 bp_9 ?_
  obtain ⟨q4, cq4, h⟩ := h_bindS h
  refine a_callV1 [.ref t0] yy_X6_takeNumber ml_4_41 kc_1 rfl (sRd_takeNumber _ (by omega) (0 : Int32) (9 : Int32) q3 J B q4 cq4) rfl rfl (Nat.le_of_ble_eq_true rfl) dX4_readFrom_20 ?_
  refine b_putI hK_4 (k_LT ht0) (i := 4) rfl fl_4_45 rfl rfl (h_NI _) dX4_readFrom_23 ?_
  obtain ⟨I5, eI5, h⟩ := h_letS h
  refine a_memI eI5 ?_
  refine a_aload_n dX4_readFrom_26 rfl rfl ?_
  refine a_bipush dX4_readFrom_27 bp_59 ?_
  obtain ⟨q6, cq6, h⟩ := h_bindS h
  refine a_callV0 [] yy_X6_take ml_4_37 kc_1 rfl (sRd_take _ (by omega) (59 : Int32) I5 J B q6 cq6) rfl rfl (Nat.le_of_ble_eq_true rfl) dX4_readFrom_29 ?_
  refine a_aload_n dX4_readFrom_32 rfl rfl ?_
  refine a_sipush dX4_readFrom_33 sq_259 ?_
  obtain ⟨q7, cq7, h⟩ := h_bindS h
  refine a_callV1 [] yy_X6_skip ml_4_49 kc_1 rfl (sRd_skip _ (by omega) (259 : Int32) q6 J B q7 cq7) rfl rfl (Nat.le_of_ble_eq_true rfl) dX4_readFrom_36 ?_
  refine a_if_eq (tgt := 68) dX4_readFrom_39 (by decide) (fun c => ?_) (fun c => ?_)
  · replace h := h_iteT c h
    exact sLt_readFrom_68 (d0 + 1) (by omega) t0 ht0 q7.2 J B _ h
  · replace h := h_iteF c h
    refine a_aload_n dX4_readFrom_42 rfl rfl ?_
    refine a_aload_n dX4_readFrom_43 rfl rfl ?_
    refine a_iconst dX4_readFrom_44 ic_0 ?_
    refine a_bipush dX4_readFrom_45 bp_10 ?_
    refine a_aload_n dX4_readFrom_47 rfl rfl ?_
    refine b_getI hK_4 (k_LT ht0) (i := 4) rfl fl_4_45 rfl dX4_readFrom_48 ?_
    refine a_iconst dX4_readFrom_51 ic_1 ?_
    refine a_iadd dX4_readFrom_52 ?_
    obtain ⟨g8, h⟩ := h_gS h
    refine a_idiv dX4_readFrom_53 (h_nzV g8) ?_
    refine a_iconst dX4_readFrom_54 ic_1 ?_
    refine a_isub dX4_readFrom_55 ?_
    obtain ⟨q9, cq9, h⟩ := h_bindS h
    refine a_callV1 [.ref t0] yy_X6_takeNumber ml_4_41 kc_1 rfl (sRd_takeNumber _ (by omega) (0 : Int32) (((10 : Int32) / ((q7.2 t0 4) + (1 : Int32))) - (1 : Int32)) q7.2 J B q9 cq9) rfl rfl (Nat.le_of_ble_eq_true rfl) dX4_readFrom_56 ?_
    refine b_putI hK_4 (k_LT ht0) (i := 5) rfl fl_4_53 rfl rfl (h_NI _) dX4_readFrom_59 ?_
    obtain ⟨I10, eI10, h⟩ := h_letS h
    refine a_memI eI10 ?_
    refine a_aload_n dX4_readFrom_62 rfl rfl ?_
    refine a_bipush dX4_readFrom_63 bp_59 ?_
    obtain ⟨q11, cq11, h⟩ := h_bindS h
    refine a_callV0 [] yy_X6_take ml_4_37 kc_1 rfl (sRd_take _ (by omega) (59 : Int32) I10 J B q11 cq11) rfl rfl (Nat.le_of_ble_eq_true rfl) dX4_readFrom_65 ?_
    exact sLt_readFrom_68 (d0 + 1) (by omega) t0 ht0 q11 J B _ h
/-! CoinLoops$Plans.choiceOf(II)I -/
theorem dX5_choiceOf_0 : decode cX5_choiceOf 0 = .ok (.iload_n 1, 1) := by decide +kernel
theorem dX5_choiceOf_1 : decode cX5_choiceOf 1 = .ok (.istore_n 3, 1) := by decide +kernel
theorem dX5_choiceOf_2 : decode cX5_choiceOf 2 = .ok (.aload_n 0, 1) := by decide +kernel
theorem dX5_choiceOf_3 : decode cX5_choiceOf 3 = .ok (.getfield 36, 3) := by decide +kernel
theorem dX5_choiceOf_6 : decode cX5_choiceOf 6 = .ok (.getfield 63, 3) := by decide +kernel
theorem dX5_choiceOf_9 : decode cX5_choiceOf 9 = .ok (.iconst 1, 1) := by decide +kernel
theorem dX5_choiceOf_10 : decode cX5_choiceOf 10 = .ok (.isub, 1) := by decide +kernel
theorem dX5_choiceOf_11 : decode cX5_choiceOf 11 = .ok (.istore 4, 2) := by decide +kernel
theorem dX5_choiceOf_13 : decode cX5_choiceOf 13 = .ok (.iload 4, 2) := by decide +kernel
theorem dX5_choiceOf_15 : decode cX5_choiceOf 15 = .ok (.iload_n 2, 1) := by decide +kernel
theorem dX5_choiceOf_16 : decode cX5_choiceOf 16 = .ok (.if_icmp .le 40, 3) := by decide +kernel
theorem dX5_choiceOf_19 : decode cX5_choiceOf 19 = .ok (.iload 4, 2) := by decide +kernel
theorem dX5_choiceOf_21 : decode cX5_choiceOf 21 = .ok (.ifCond .lt 35, 3) := by decide +kernel
theorem dX5_choiceOf_24 : decode cX5_choiceOf 24 = .ok (.aload_n 0, 1) := by decide +kernel
theorem dX5_choiceOf_25 : decode cX5_choiceOf 25 = .ok (.getfield 36, 3) := by decide +kernel
theorem dX5_choiceOf_28 : decode cX5_choiceOf 28 = .ok (.getfield 82, 3) := by decide +kernel
theorem dX5_choiceOf_31 : decode cX5_choiceOf 31 = .ok (.iload 4, 2) := by decide +kernel
theorem dX5_choiceOf_33 : decode cX5_choiceOf 33 = .ok (.iaload, 1) := by decide +kernel
theorem dX5_choiceOf_34 : decode cX5_choiceOf 34 = .ok (.ifCond .le 16, 3) := by decide +kernel
theorem dX5_choiceOf_37 : decode cX5_choiceOf 37 = .ok (.iload_n 3, 1) := by decide +kernel
theorem dX5_choiceOf_38 : decode cX5_choiceOf 38 = .ok (.aload_n 0, 1) := by decide +kernel
theorem dX5_choiceOf_39 : decode cX5_choiceOf 39 = .ok (.getfield 36, 3) := by decide +kernel
theorem dX5_choiceOf_42 : decode cX5_choiceOf 42 = .ok (.getfield 82, 3) := by decide +kernel
theorem dX5_choiceOf_45 : decode cX5_choiceOf 45 = .ok (.iload 4, 2) := by decide +kernel
theorem dX5_choiceOf_47 : decode cX5_choiceOf 47 = .ok (.iaload, 1) := by decide +kernel
theorem dX5_choiceOf_48 : decode cX5_choiceOf 48 = .ok (.idiv, 1) := by decide +kernel
theorem dX5_choiceOf_49 : decode cX5_choiceOf 49 = .ok (.istore_n 3, 1) := by decide +kernel
theorem dX5_choiceOf_50 : decode cX5_choiceOf 50 = .ok (.iinc 4 (-1), 3) := by decide +kernel
theorem dX5_choiceOf_53 : decode cX5_choiceOf 53 = .ok (.goto (-40), 3) := by decide +kernel
theorem dX5_choiceOf_56 : decode cX5_choiceOf 56 = .ok (.iload_n 2, 1) := by decide +kernel
theorem dX5_choiceOf_57 : decode cX5_choiceOf 57 = .ok (.bipush 10, 2) := by decide +kernel
theorem dX5_choiceOf_59 : decode cX5_choiceOf 59 = .ok (.invokestatic 70, 3) := by decide +kernel
theorem dX5_choiceOf_62 : decode cX5_choiceOf 62 = .ok (.ifCond .ne 15, 3) := by decide +kernel
theorem dX5_choiceOf_65 : decode cX5_choiceOf 65 = .ok (.aload_n 0, 1) := by decide +kernel
theorem dX5_choiceOf_66 : decode cX5_choiceOf 66 = .ok (.getfield 36, 3) := by decide +kernel
theorem dX5_choiceOf_69 : decode cX5_choiceOf 69 = .ok (.getfield 82, 3) := by decide +kernel
theorem dX5_choiceOf_72 : decode cX5_choiceOf 72 = .ok (.iload_n 2, 1) := by decide +kernel
theorem dX5_choiceOf_73 : decode cX5_choiceOf 73 = .ok (.iaload, 1) := by decide +kernel
theorem dX5_choiceOf_74 : decode cX5_choiceOf 74 = .ok (.ifCond .gt 5, 3) := by decide +kernel
theorem dX5_choiceOf_77 : decode cX5_choiceOf 77 = .ok (.iconst (-1), 1) := by decide +kernel
theorem dX5_choiceOf_78 : decode cX5_choiceOf 78 = .ok (.ireturn, 1) := by decide +kernel
theorem dX5_choiceOf_79 : decode cX5_choiceOf 79 = .ok (.iload_n 3, 1) := by decide +kernel
theorem dX5_choiceOf_80 : decode cX5_choiceOf 80 = .ok (.aload_n 0, 1) := by decide +kernel
theorem dX5_choiceOf_81 : decode cX5_choiceOf 81 = .ok (.getfield 36, 3) := by decide +kernel
theorem dX5_choiceOf_84 : decode cX5_choiceOf 84 = .ok (.getfield 82, 3) := by decide +kernel
theorem dX5_choiceOf_87 : decode cX5_choiceOf 87 = .ok (.iload_n 2, 1) := by decide +kernel
theorem dX5_choiceOf_88 : decode cX5_choiceOf 88 = .ok (.iaload, 1) := by decide +kernel
theorem dX5_choiceOf_89 : decode cX5_choiceOf 89 = .ok (.irem, 1) := by decide +kernel
theorem dX5_choiceOf_90 : decode cX5_choiceOf 90 = .ok (.ireturn, 1) := by decide +kernel
def mPl_choiceOf_56  (v2 : Int32) (v3 : Int32) (I : hI) : Option (Int32) :=
  if (mC_isOutside v2 (10 : Int32)) = 0 then
    (h_g (h_in v2 10) <|
    if 0 < (I 8 v2.toNatClampNeg) then
      (h_g (h_in v2 10) <|
      h_g (h_nz (I 8 v2.toNatClampNeg)) <|
      some (v3 - v3 / (I 8 v2.toNatClampNeg) * (I 8 v2.toNatClampNeg)))
    else
      some (-1 : Int32))
  else
    some (-1 : Int32)
set_option maxHeartbeats 4000000 in
theorem sPl_choiceOf_56 (d : Nat) (hd : 0 + 1 ≤ d) (v2 : Int32) (v3 : Int32) (I : hI) (J : hJ) (B : Bool × Bool) (q : Int32) (h : mPl_choiceOf_56 v2 v3 I = some q) : AW hFT cX5_choiceOf 5 (some .int) RX5 kdC d [(0, .ref 13), (2, .int v2), (3, .int v3)] 56 [] (I, J, RM B) (some (.int q)) (I, J, RM B) := by
  obtain ⟨d0, rfl, hd0⟩ := h_mono hd
  unfold mPl_choiceOf_56 at h
  refine a_iload_n dX5_choiceOf_56 rfl rfl ?_
  refine a_bipush dX5_choiceOf_57 bp_10 ?_
  refine a_callSN1 [] yy_X10_isOutside ml_5_70 (sC_isOutside _ (by omega) v2 (10 : Int32) I J B _ rfl) rfl rfl (Nat.le_of_ble_eq_true rfl) dX5_choiceOf_59 ?_
  refine a_if_ne (tgt := 77) dX5_choiceOf_62 (by decide) (fun c => ?_) (fun c => ?_)
  · replace h := h_iteF c h
    refine a_iconst dX5_choiceOf_77 ic_m1 ?_
    cases h
    exact a_iret dX5_choiceOf_78
  · replace h := h_iteT c h
    refine a_aload_n dX5_choiceOf_65 rfl rfl ?_
    refine b_getR hK_5 kc_13 (i := 0) rfl fl_5_36 rfl (rm_13_0 B) dX5_choiceOf_66 ?_
    refine b_getR hK_7 kc_7 (i := 0) rfl fl_5_82 rfl (rm_7_0 B) dX5_choiceOf_69 ?_
    refine a_iload_n dX5_choiceOf_72 rfl rfl ?_
    obtain ⟨g1, h⟩ := h_gS h
    refine b_iaload kc_8 (h_inV g1) dX5_choiceOf_73 ?_
    refine a_if_gt (tgt := 79) dX5_choiceOf_74 (by decide) (fun c => ?_) (fun c => ?_)
    · replace h := h_iteT c h
      refine a_iload_n dX5_choiceOf_79 rfl rfl ?_
      refine a_aload_n dX5_choiceOf_80 rfl rfl ?_
      refine b_getR hK_5 kc_13 (i := 0) rfl fl_5_36 rfl (rm_13_0 B) dX5_choiceOf_81 ?_
      refine b_getR hK_7 kc_7 (i := 0) rfl fl_5_82 rfl (rm_7_0 B) dX5_choiceOf_84 ?_
      refine a_iload_n dX5_choiceOf_87 rfl rfl ?_
      obtain ⟨g2, h⟩ := h_gS h
      refine b_iaload kc_8 (h_inV g2) dX5_choiceOf_88 ?_
      obtain ⟨g3, h⟩ := h_gS h
      refine a_irem dX5_choiceOf_89 (h_nzV g3) ?_
      cases h
      exact a_iret dX5_choiceOf_90
    · replace h := h_iteF c h
      refine a_iconst dX5_choiceOf_77 ic_m1 ?_
      cases h
      exact a_iret dX5_choiceOf_78
def mPl_choiceOf_B13 (k13 : Int32 → Int32 → Int32 → hI → Option (Int32)) (v2 : Int32) (v3 : Int32) (v4 : Int32) (I : hI) : Option (Int32) :=
  if v4 ≤ v2 then
    mPl_choiceOf_56 v2 v3 I
  else
    (if v4 < 0 then
      mPl_choiceOf_56 v2 v3 I
    else
      (h_g (h_in v4 10) <|
      if (I 8 v4.toNatClampNeg) ≤ 0 then
        k13 v2 v3 (v4 + (-1 : Int32)) I
      else
        (h_g (h_in v4 10) <|
        h_g (h_nz (I 8 v4.toNatClampNeg)) <|
        h_let (v3 / (I 8 v4.toNatClampNeg)) fun v3x3 =>
        k13 v2 v3x3 (v4 + (-1 : Int32)) I)))
set_option maxHeartbeats 4000000 in
theorem sPl_choiceOf_B13 (d : Nat) (hd : 0 + 1 ≤ d) (k13 : Int32 → Int32 → Int32 → hI → Option (Int32)) (hk13 : ∀ (v2 : Int32) (v3 : Int32) (v4 : Int32) (I : hI) (J : hJ) (B : Bool × Bool) (q : Int32), k13 v2 v3 v4 I = some q → AW hFT cX5_choiceOf 5 (some .int) RX5 kdC d [(0, .ref 13), (2, .int v2), (3, .int v3), (4, .int v4)] 13 [] (I, J, RM B) (some (.int q)) (I, J, RM B)) (v2 : Int32) (v3 : Int32) (v4 : Int32) (I : hI) (J : hJ) (B : Bool × Bool) (q : Int32) (h : mPl_choiceOf_B13 k13 v2 v3 v4 I = some q) : AW hFT cX5_choiceOf 5 (some .int) RX5 kdC d [(0, .ref 13), (2, .int v2), (3, .int v3), (4, .int v4)] 13 [] (I, J, RM B) (some (.int q)) (I, J, RM B) := by
  obtain ⟨d0, rfl, hd0⟩ := h_mono hd
  unfold mPl_choiceOf_B13 at h
  refine a_iload dX5_choiceOf_13 rfl ?_
  refine a_iload_n dX5_choiceOf_15 rfl rfl ?_
  refine a_icmp_le (tgt := 56) dX5_choiceOf_16 (by decide) (fun c => ?_) (fun c => ?_)
  · replace h := h_iteT c h
    refine a_sub (lv' := [(0, .ref 13), (2, .int v2), (3, .int v3)]) [0, 1, 2] rfl ?_
    exact sPl_choiceOf_56 (d0 + 1) (by omega) v2 v3 I J B _ h
  · replace h := h_iteF c h
    refine a_iload dX5_choiceOf_19 rfl ?_
    refine a_if_lt (tgt := 56) dX5_choiceOf_21 (by decide) (fun c => ?_) (fun c => ?_)
    · replace h := h_iteT c h
      refine a_sub (lv' := [(0, .ref 13), (2, .int v2), (3, .int v3)]) [0, 1, 2] rfl ?_
      exact sPl_choiceOf_56 (d0 + 1) (by omega) v2 v3 I J B _ h
    · replace h := h_iteF c h
      refine a_aload_n dX5_choiceOf_24 rfl rfl ?_
      refine b_getR hK_5 kc_13 (i := 0) rfl fl_5_36 rfl (rm_13_0 B) dX5_choiceOf_25 ?_
      refine b_getR hK_7 kc_7 (i := 0) rfl fl_5_82 rfl (rm_7_0 B) dX5_choiceOf_28 ?_
      refine a_iload dX5_choiceOf_31 rfl ?_
      obtain ⟨g1, h⟩ := h_gS h
      refine b_iaload kc_8 (h_inV g1) dX5_choiceOf_33 ?_
      refine a_if_le (tgt := 50) dX5_choiceOf_34 (by decide) (fun c => ?_) (fun c => ?_)
      · replace h := h_iteT c h
        refine b_iinc (lv' := [(4, .int (v4 + (-1 : Int32))), (0, .ref 13), (2, .int v2), (3, .int v3)]) dX5_choiceOf_50 rfl ic_m1 (by decide) rfl ?_
        refine a_goto (tgt := 13) dX5_choiceOf_53 (by decide) ?_
        refine a_sub (lv' := [(0, .ref 13), (2, .int v2), (3, .int v3), (4, .int (v4 + (-1 : Int32)))]) [1, 2, 3, 0] rfl ?_
        exact hk13 v2 v3 (v4 + (-1 : Int32)) I J B _ h
      · replace h := h_iteF c h
        refine a_iload_n dX5_choiceOf_37 rfl rfl ?_
        refine a_aload_n dX5_choiceOf_38 rfl rfl ?_
        refine b_getR hK_5 kc_13 (i := 0) rfl fl_5_36 rfl (rm_13_0 B) dX5_choiceOf_39 ?_
        refine b_getR hK_7 kc_7 (i := 0) rfl fl_5_82 rfl (rm_7_0 B) dX5_choiceOf_42 ?_
        refine a_iload dX5_choiceOf_45 rfl ?_
        obtain ⟨g2, h⟩ := h_gS h
        refine b_iaload kc_8 (h_inV g2) dX5_choiceOf_47 ?_
        obtain ⟨g3, h⟩ := h_gS h
        refine a_idiv dX5_choiceOf_48 (h_nzV g3) ?_
        obtain ⟨v3x3, ev3x3, h⟩ := h_letS h
        refine a_topI ev3x3 ?_
        refine a_istore_n (lv' := [(3, .int v3x3), (0, .ref 13), (2, .int v2), (4, .int v4)]) dX5_choiceOf_49 rfl (by decide) rfl ?_
        refine b_iinc (lv' := [(4, .int (v4 + (-1 : Int32))), (3, .int v3x3), (0, .ref 13), (2, .int v2)]) dX5_choiceOf_50 rfl ic_m1 (by decide) rfl ?_
        refine a_goto (tgt := 13) dX5_choiceOf_53 (by decide) ?_
        refine a_sub (lv' := [(0, .ref 13), (2, .int v2), (3, .int v3x3), (4, .int (v4 + (-1 : Int32)))]) [2, 3, 1, 0] rfl ?_
        exact hk13 v2 v3x3 (v4 + (-1 : Int32)) I J B _ h
def mPl_choiceOf_L13  : Nat → Int32 → Int32 → Int32 → hI → Option (Int32)
  | 0 => fun _ _ _ _ => none
  | n + 1 => mPl_choiceOf_B13 (mPl_choiceOf_L13 n)
theorem sPl_choiceOf_L13 (d : Nat) (hd : 0 + 1 ≤ d) : ∀ (n : Nat) (v2 : Int32) (v3 : Int32) (v4 : Int32) (I : hI) (J : hJ) (B : Bool × Bool) (q : Int32) (h : mPl_choiceOf_L13 n v2 v3 v4 I = some q), AW hFT cX5_choiceOf 5 (some .int) RX5 kdC d [(0, .ref 13), (2, .int v2), (3, .int v3), (4, .int v4)] 13 [] (I, J, RM B) (some (.int q)) (I, J, RM B)
  | 0, _, _, _, _, _, _, q, h => by cases h
  | n + 1, v2, v3, v4, I, J, B, q, h => sPl_choiceOf_B13 d hd (mPl_choiceOf_L13 n) (sPl_choiceOf_L13 d hd n) v2 v3 v4 I J B q h
def mPl_choiceOf  (v1 : Int32) (v2 : Int32) (I : hI) : Option (Int32) :=
  h_let ((I 7 5) - (1 : Int32)) fun v4x0 =>
  mPl_choiceOf_L13 hF v2 v1 v4x0 I
set_option maxHeartbeats 4000000 in
theorem sPl_choiceOf (d : Nat) (hd : 0 + 1 ≤ d) (v1 : Int32) (v2 : Int32) (I : hI) (J : hJ) (B : Bool × Bool) (q : Int32) (h : mPl_choiceOf v1 v2 I = some q) : HMet hFT yX5_choiceOf cX5_choiceOf 5 (some .int) kdC d [.ref 13, .int v1, .int v2] (I, J, RM B) (some (.int q)) (I, J, RM B) := by
  obtain ⟨d0, rfl, hd0⟩ := h_mono hd
  refine HMet.of (by decide) (Nat.le_of_ble_eq_true rfl) ?_
  show AW hFT cX5_choiceOf 5 (some .int) RX5 kdC (d0 + 1) [(0, .ref 13), (1, .int v1), (2, .int v2)] 0 [] (I, J, RM B) (some (.int q)) (I, J, RM B)
  unfold mPl_choiceOf at h
  refine a_iload_n dX5_choiceOf_0 rfl rfl ?_
  refine a_istore_n (lv' := [(3, .int v1), (0, .ref 13), (1, .int v1), (2, .int v2)]) dX5_choiceOf_1 rfl (by decide) rfl ?_
  refine a_aload_n dX5_choiceOf_2 rfl rfl ?_
  refine b_getR hK_5 kc_13 (i := 0) rfl fl_5_36 rfl (rm_13_0 B) dX5_choiceOf_3 ?_
  refine b_getI hK_7 kc_7 (i := 5) rfl fl_5_63 rfl dX5_choiceOf_6 ?_
  refine a_iconst dX5_choiceOf_9 ic_1 ?_
  refine a_isub dX5_choiceOf_10 ?_
  obtain ⟨v4x0, ev4x0, h⟩ := h_letS h
  refine a_topI ev4x0 ?_
  refine a_istore (lv' := [(4, .int v4x0), (3, .int v1), (0, .ref 13), (1, .int v1), (2, .int v2)]) dX5_choiceOf_11 (by decide) rfl ?_
  refine a_sub (lv' := [(0, .ref 13), (2, .int v2), (3, .int v1), (4, .int v4x0)]) [2, 4, 1, 0] rfl ?_
  exact sPl_choiceOf_L13 (d0 + 1) (by omega) hF v2 v1 v4x0 I J B _ h
/-! CoinLoops$Plans.noteWays(II)V -/
theorem dX5_noteWays_0 : decode cX5_noteWays 0 = .ok (.iload_n 1, 1) := by decide +kernel
theorem dX5_noteWays_1 : decode cX5_noteWays 1 = .ok (.bipush 10, 2) := by decide +kernel
theorem dX5_noteWays_3 : decode cX5_noteWays 3 = .ok (.invokestatic 70, 3) := by decide +kernel
theorem dX5_noteWays_6 : decode cX5_noteWays 6 = .ok (.ifCond .ne 12, 3) := by decide +kernel
theorem dX5_noteWays_9 : decode cX5_noteWays 9 = .ok (.iload_n 2, 1) := by decide +kernel
theorem dX5_noteWays_10 : decode cX5_noteWays 10 = .ok (.bipush 80, 2) := by decide +kernel
theorem dX5_noteWays_12 : decode cX5_noteWays 12 = .ok (.invokestatic 70, 3) := by decide +kernel
theorem dX5_noteWays_15 : decode cX5_noteWays 15 = .ok (.ifCond .eq 4, 3) := by decide +kernel
theorem dX5_noteWays_18 : decode cX5_noteWays 18 = .ok (.return_, 1) := by decide +kernel
theorem dX5_noteWays_19 : decode cX5_noteWays 19 = .ok (.aload_n 0, 1) := by decide +kernel
theorem dX5_noteWays_20 : decode cX5_noteWays 20 = .ok (.getfield 36, 3) := by decide +kernel
theorem dX5_noteWays_23 : decode cX5_noteWays 23 = .ok (.getfield 110, 3) := by decide +kernel
theorem dX5_noteWays_26 : decode cX5_noteWays 26 = .ok (.iload_n 2, 1) := by decide +kernel
theorem dX5_noteWays_27 : decode cX5_noteWays 27 = .ok (.iaload, 1) := by decide +kernel
theorem dX5_noteWays_28 : decode cX5_noteWays 28 = .ok (.ifCond .le 15, 3) := by decide +kernel
theorem dX5_noteWays_31 : decode cX5_noteWays 31 = .ok (.aload_n 0, 1) := by decide +kernel
theorem dX5_noteWays_32 : decode cX5_noteWays 32 = .ok (.dup, 1) := by decide +kernel
theorem dX5_noteWays_33 : decode cX5_noteWays 33 = .ok (.getfield 95, 3) := by decide +kernel
theorem dX5_noteWays_36 : decode cX5_noteWays 36 = .ok (.iconst 1, 1) := by decide +kernel
theorem dX5_noteWays_37 : decode cX5_noteWays 37 = .ok (.iload_n 1, 1) := by decide +kernel
theorem dX5_noteWays_38 : decode cX5_noteWays 38 = .ok (.ishl, 1) := by decide +kernel
theorem dX5_noteWays_39 : decode cX5_noteWays 39 = .ok (.ior, 1) := by decide +kernel
theorem dX5_noteWays_40 : decode cX5_noteWays 40 = .ok (.putfield 95, 3) := by decide +kernel
theorem dX5_noteWays_43 : decode cX5_noteWays 43 = .ok (.iconst 0, 1) := by decide +kernel
theorem dX5_noteWays_44 : decode cX5_noteWays 44 = .ok (.istore_n 3, 1) := by decide +kernel
theorem dX5_noteWays_45 : decode cX5_noteWays 45 = .ok (.iload_n 3, 1) := by decide +kernel
theorem dX5_noteWays_46 : decode cX5_noteWays 46 = .ok (.aload_n 0, 1) := by decide +kernel
theorem dX5_noteWays_47 : decode cX5_noteWays 47 = .ok (.getfield 36, 3) := by decide +kernel
theorem dX5_noteWays_50 : decode cX5_noteWays 50 = .ok (.getfield 63, 3) := by decide +kernel
theorem dX5_noteWays_53 : decode cX5_noteWays 53 = .ok (.if_icmp .ge 33, 3) := by decide +kernel
theorem dX5_noteWays_56 : decode cX5_noteWays 56 = .ok (.aload_n 0, 1) := by decide +kernel
theorem dX5_noteWays_57 : decode cX5_noteWays 57 = .ok (.getfield 36, 3) := by decide +kernel
theorem dX5_noteWays_60 : decode cX5_noteWays 60 = .ok (.iload_n 2, 1) := by decide +kernel
theorem dX5_noteWays_61 : decode cX5_noteWays 61 = .ok (.iload_n 3, 1) := by decide +kernel
theorem dX5_noteWays_62 : decode cX5_noteWays 62 = .ok (.invokevirtual 113, 3) := by decide +kernel
theorem dX5_noteWays_65 : decode cX5_noteWays 65 = .ok (.ifCond .le 15, 3) := by decide +kernel
theorem dX5_noteWays_68 : decode cX5_noteWays 68 = .ok (.aload_n 0, 1) := by decide +kernel
theorem dX5_noteWays_69 : decode cX5_noteWays 69 = .ok (.getfield 25, 3) := by decide +kernel
theorem dX5_noteWays_72 : decode cX5_noteWays 72 = .ok (.iload_n 1, 1) := by decide +kernel
theorem dX5_noteWays_73 : decode cX5_noteWays 73 = .ok (.dup2, 1) := by decide +kernel
theorem dX5_noteWays_74 : decode cX5_noteWays 74 = .ok (.iaload, 1) := by decide +kernel
theorem dX5_noteWays_75 : decode cX5_noteWays 75 = .ok (.iconst 1, 1) := by decide +kernel
theorem dX5_noteWays_76 : decode cX5_noteWays 76 = .ok (.iload_n 3, 1) := by decide +kernel
theorem dX5_noteWays_77 : decode cX5_noteWays 77 = .ok (.ishl, 1) := by decide +kernel
theorem dX5_noteWays_78 : decode cX5_noteWays 78 = .ok (.ior, 1) := by decide +kernel
theorem dX5_noteWays_79 : decode cX5_noteWays 79 = .ok (.iastore, 1) := by decide +kernel
theorem dX5_noteWays_80 : decode cX5_noteWays 80 = .ok (.iinc 3 1, 3) := by decide +kernel
theorem dX5_noteWays_83 : decode cX5_noteWays 83 = .ok (.goto (-38), 3) := by decide +kernel
theorem dX5_noteWays_86 : decode cX5_noteWays 86 = .ok (.return_, 1) := by decide +kernel
def mPl_noteWays_B45 (k45 : Int32 → Int32 → Int32 → hI → Option (hI)) (v1 : Int32) (v2 : Int32) (v3 : Int32) (I : hI) : Option (hI) :=
  if (I 7 5) ≤ v3 then
    some I
  else
    ((mRo_quarters v2 v3 I).bind fun q1 =>
    if q1 ≤ 0 then
      k45 v1 v2 (v3 + (1 : Int32)) I
    else
      (h_g (h_in v1 10) <|
      h_g (h_in v1 10) <|
      h_let (h_u I 18 v1.toNatClampNeg ((I 18 v1.toNatClampNeg) ||| ((1 : Int32) <<< (v3 &&& 31)))) fun I4 =>
      k45 v1 v2 (v3 + (1 : Int32)) I4))
set_option maxHeartbeats 4000000 in
theorem sPl_noteWays_B45 (d : Nat) (hd : 0 + 1 ≤ d) (k45 : Int32 → Int32 → Int32 → hI → Option (hI)) (hk45 : ∀ (v1 : Int32) (v2 : Int32) (v3 : Int32) (I : hI) (J : hJ) (B : Bool × Bool) (q : hI), k45 v1 v2 v3 I = some q → AW hFT cX5_noteWays 4 none RX5 kdC d [(0, .ref 13), (1, .int v1), (2, .int v2), (3, .int v3)] 45 [] (I, J, RM B) none (q, J, RM B)) (v1 : Int32) (v2 : Int32) (v3 : Int32) (I : hI) (J : hJ) (B : Bool × Bool) (q : hI) (h : mPl_noteWays_B45 k45 v1 v2 v3 I = some q) : AW hFT cX5_noteWays 4 none RX5 kdC d [(0, .ref 13), (1, .int v1), (2, .int v2), (3, .int v3)] 45 [] (I, J, RM B) none (q, J, RM B) := by
  obtain ⟨d0, rfl, hd0⟩ := h_mono hd
  unfold mPl_noteWays_B45 at h
  refine a_iload_n dX5_noteWays_45 rfl rfl ?_
  refine a_aload_n dX5_noteWays_46 rfl rfl ?_
  refine b_getR hK_5 kc_13 (i := 0) rfl fl_5_36 rfl (rm_13_0 B) dX5_noteWays_47 ?_
  refine b_getI hK_7 kc_7 (i := 5) rfl fl_5_63 rfl dX5_noteWays_50 ?_
  refine a_icmp_ge (tgt := 86) dX5_noteWays_53 (by decide) (fun c => ?_) (fun c => ?_)
  · replace h := h_iteT c h
    cases h
    exact a_vret dX5_noteWays_86
  · replace h := h_iteF c h
    refine a_aload_n dX5_noteWays_56 rfl rfl ?_
    refine b_getR hK_5 kc_13 (i := 0) rfl fl_5_36 rfl (rm_13_0 B) dX5_noteWays_57 ?_
    refine a_iload_n dX5_noteWays_60 rfl rfl ?_
    refine a_iload_n dX5_noteWays_61 rfl rfl ?_
    obtain ⟨q1, cq1, h⟩ := h_bindS h
    refine a_callV1 [] yy_X7_quarters ml_5_113 kc_7 rfl (sRo_quarters _ (by omega) v2 v3 I J B q1 cq1) rfl rfl (Nat.le_of_ble_eq_true rfl) dX5_noteWays_62 ?_
    refine a_if_le (tgt := 80) dX5_noteWays_65 (by decide) (fun c => ?_) (fun c => ?_)
    · replace h := h_iteT c h
      refine b_iinc (lv' := [(3, .int (v3 + (1 : Int32))), (0, .ref 13), (1, .int v1), (2, .int v2)]) dX5_noteWays_80 rfl ic_1 (by decide) rfl ?_
      refine a_goto (tgt := 45) dX5_noteWays_83 (by decide) ?_
      refine a_sub (lv' := [(0, .ref 13), (1, .int v1), (2, .int v2), (3, .int (v3 + (1 : Int32)))]) [1, 2, 3, 0] rfl ?_
      exact hk45 v1 v2 (v3 + (1 : Int32)) I J B _ h
    · replace h := h_iteF c h
      refine a_aload_n dX5_noteWays_68 rfl rfl ?_
      refine b_getR hK_5 kc_13 (i := 6) rfl fl_5_25 rfl (rm_13_6 B) dX5_noteWays_69 ?_
      refine a_iload_n dX5_noteWays_72 rfl rfl ?_
      refine a_dup2_11 dX5_noteWays_73 rfl rfl ?_
      obtain ⟨g2, h⟩ := h_gS h
      refine b_iaload kc_18 (h_inV g2) dX5_noteWays_74 ?_
      refine a_iconst dX5_noteWays_75 ic_1 ?_
      refine a_iload_n dX5_noteWays_76 rfl rfl ?_
      refine a_ishl dX5_noteWays_77 ?_
      refine a_ior dX5_noteWays_78 ?_
      obtain ⟨g3, h⟩ := h_gS h
      refine b_iastore kc_18 (h_inV g3) dX5_noteWays_79 ?_
      obtain ⟨I4, eI4, h⟩ := h_letS h
      refine a_memI eI4 ?_
      refine b_iinc (lv' := [(3, .int (v3 + (1 : Int32))), (0, .ref 13), (1, .int v1), (2, .int v2)]) dX5_noteWays_80 rfl ic_1 (by decide) rfl ?_
      refine a_goto (tgt := 45) dX5_noteWays_83 (by decide) ?_
      refine a_sub (lv' := [(0, .ref 13), (1, .int v1), (2, .int v2), (3, .int (v3 + (1 : Int32)))]) [1, 2, 3, 0] rfl ?_
      exact hk45 v1 v2 (v3 + (1 : Int32)) I4 J B _ h
def mPl_noteWays_L45  : Nat → Int32 → Int32 → Int32 → hI → Option (hI)
  | 0 => fun _ _ _ _ => none
  | n + 1 => mPl_noteWays_B45 (mPl_noteWays_L45 n)
theorem sPl_noteWays_L45 (d : Nat) (hd : 0 + 1 ≤ d) : ∀ (n : Nat) (v1 : Int32) (v2 : Int32) (v3 : Int32) (I : hI) (J : hJ) (B : Bool × Bool) (q : hI) (h : mPl_noteWays_L45 n v1 v2 v3 I = some q), AW hFT cX5_noteWays 4 none RX5 kdC d [(0, .ref 13), (1, .int v1), (2, .int v2), (3, .int v3)] 45 [] (I, J, RM B) none (q, J, RM B)
  | 0, _, _, _, _, _, _, q, h => by cases h
  | n + 1, v1, v2, v3, I, J, B, q, h => sPl_noteWays_B45 d hd (mPl_noteWays_L45 n) (sPl_noteWays_L45 d hd n) v1 v2 v3 I J B q h
def mPl_noteWays  (v1 : Int32) (v2 : Int32) (I : hI) : Option (hI) :=
  if (mC_isOutside v1 (10 : Int32)) = 0 then
    (if (mC_isOutside v2 (80 : Int32)) = 0 then
      (h_g (h_in v2 80) <|
      if (I 11 v2.toNatClampNeg) ≤ 0 then
        mPl_noteWays_L45 hF v1 v2 (0 : Int32) I
      else
        (h_let (h_u I 13 9 ((I 13 9) ||| ((1 : Int32) <<< (v1 &&& 31)))) fun I2 =>
        mPl_noteWays_L45 hF v1 v2 (0 : Int32) I2))
    else
      some I)
  else
    some I
set_option maxHeartbeats 4000000 in
theorem sPl_noteWays (d : Nat) (hd : 0 + 1 ≤ d) (v1 : Int32) (v2 : Int32) (I : hI) (J : hJ) (B : Bool × Bool) (q : hI) (h : mPl_noteWays v1 v2 I = some q) : HMet hFT yX5_noteWays cX5_noteWays 4 none kdC d [.ref 13, .int v1, .int v2] (I, J, RM B) none (q, J, RM B) := by
  obtain ⟨d0, rfl, hd0⟩ := h_mono hd
  refine HMet.of (by decide) (Nat.le_of_ble_eq_true rfl) ?_
  show AW hFT cX5_noteWays 4 none RX5 kdC (d0 + 1) [(0, .ref 13), (1, .int v1), (2, .int v2)] 0 [] (I, J, RM B) none (q, J, RM B)
  unfold mPl_noteWays at h
  refine a_iload_n dX5_noteWays_0 rfl rfl ?_
  refine a_bipush dX5_noteWays_1 bp_10 ?_
  refine a_callSN1 [] yy_X10_isOutside ml_5_70 (sC_isOutside _ (by omega) v1 (10 : Int32) I J B _ rfl) rfl rfl (Nat.le_of_ble_eq_true rfl) dX5_noteWays_3 ?_
  refine a_if_ne (tgt := 18) dX5_noteWays_6 (by decide) (fun c => ?_) (fun c => ?_)
  · replace h := h_iteF c h
    cases h
    exact a_vret dX5_noteWays_18
  · replace h := h_iteT c h
    refine a_iload_n dX5_noteWays_9 rfl rfl ?_
    refine a_bipush dX5_noteWays_10 bp_80 ?_
    refine a_callSN1 [] yy_X10_isOutside ml_5_70 (sC_isOutside _ (by omega) v2 (80 : Int32) I J B _ rfl) rfl rfl (Nat.le_of_ble_eq_true rfl) dX5_noteWays_12 ?_
    refine a_if_eq (tgt := 19) dX5_noteWays_15 (by decide) (fun c => ?_) (fun c => ?_)
    · replace h := h_iteT c h
      refine a_aload_n dX5_noteWays_19 rfl rfl ?_
      refine b_getR hK_5 kc_13 (i := 0) rfl fl_5_36 rfl (rm_13_0 B) dX5_noteWays_20 ?_
      refine b_getR hK_7 kc_7 (i := 3) rfl fl_5_110 rfl (rm_7_3 B) dX5_noteWays_23 ?_
      refine a_iload_n dX5_noteWays_26 rfl rfl ?_
      obtain ⟨g1, h⟩ := h_gS h
      refine b_iaload kc_11 (h_inV g1) dX5_noteWays_27 ?_
      refine a_if_le (tgt := 43) dX5_noteWays_28 (by decide) (fun c => ?_) (fun c => ?_)
      · replace h := h_iteT c h
        refine a_iconst dX5_noteWays_43 ic_0 ?_
        refine a_istore_n (lv' := [(3, .int (0 : Int32)), (0, .ref 13), (1, .int v1), (2, .int v2)]) dX5_noteWays_44 rfl (by decide) rfl ?_
        refine a_sub (lv' := [(0, .ref 13), (1, .int v1), (2, .int v2), (3, .int (0 : Int32))]) [1, 2, 3, 0] rfl ?_
        exact sPl_noteWays_L45 (d0 + 1) (by omega) hF v1 v2 (0 : Int32) I J B _ h
      · replace h := h_iteF c h
        refine a_aload_n dX5_noteWays_31 rfl rfl ?_
        refine a_dup dX5_noteWays_32 rfl ?_
        refine b_getI hK_5 kc_13 (i := 9) rfl fl_5_95 rfl dX5_noteWays_33 ?_
        refine a_iconst dX5_noteWays_36 ic_1 ?_
        refine a_iload_n dX5_noteWays_37 rfl rfl ?_
        refine a_ishl dX5_noteWays_38 ?_
        refine a_ior dX5_noteWays_39 ?_
        refine b_putI hK_5 kc_13 (i := 9) rfl fl_5_95 rfl rfl (h_NI _) dX5_noteWays_40 ?_
        obtain ⟨I2, eI2, h⟩ := h_letS h
        refine a_memI eI2 ?_
        refine a_iconst dX5_noteWays_43 ic_0 ?_
        refine a_istore_n (lv' := [(3, .int (0 : Int32)), (0, .ref 13), (1, .int v1), (2, .int v2)]) dX5_noteWays_44 rfl (by decide) rfl ?_
        refine a_sub (lv' := [(0, .ref 13), (1, .int v1), (2, .int v2), (3, .int (0 : Int32))]) [1, 2, 3, 0] rfl ?_
        exact sPl_noteWays_L45 (d0 + 1) (by omega) hF v1 v2 (0 : Int32) I2 J B _ h
    · replace h := h_iteF c h
      cases h
      exact a_vret dX5_noteWays_18
/-! CoinLoops$Plans.choosePlan(I)V -/
theorem dX5_choosePlan_0 : decode cX5_choosePlan 0 = .ok (.aload_n 0, 1) := by decide +kernel
theorem dX5_choosePlan_1 : decode cX5_choosePlan 1 = .ok (.iconst 0, 1) := by decide +kernel
theorem dX5_choosePlan_2 : decode cX5_choosePlan 2 = .ok (.putfield 95, 3) := by decide +kernel
theorem dX5_choosePlan_5 : decode cX5_choosePlan 5 = .ok (.iconst 0, 1) := by decide +kernel
theorem dX5_choosePlan_6 : decode cX5_choosePlan 6 = .ok (.istore_n 2, 1) := by decide +kernel
theorem dX5_choosePlan_7 : decode cX5_choosePlan 7 = .ok (.iload_n 2, 1) := by decide +kernel
theorem dX5_choosePlan_8 : decode cX5_choosePlan 8 = .ok (.aload_n 0, 1) := by decide +kernel
theorem dX5_choosePlan_9 : decode cX5_choosePlan 9 = .ok (.getfield 36, 3) := by decide +kernel
theorem dX5_choosePlan_12 : decode cX5_choosePlan 12 = .ok (.getfield 63, 3) := by decide +kernel
theorem dX5_choosePlan_15 : decode cX5_choosePlan 15 = .ok (.if_icmp .ge 61, 3) := by decide +kernel
theorem dX5_choosePlan_18 : decode cX5_choosePlan 18 = .ok (.aload_n 0, 1) := by decide +kernel
theorem dX5_choosePlan_19 : decode cX5_choosePlan 19 = .ok (.getfield 25, 3) := by decide +kernel
theorem dX5_choosePlan_22 : decode cX5_choosePlan 22 = .ok (.iload_n 2, 1) := by decide +kernel
theorem dX5_choosePlan_23 : decode cX5_choosePlan 23 = .ok (.iconst 1, 1) := by decide +kernel
theorem dX5_choosePlan_24 : decode cX5_choosePlan 24 = .ok (.iload_n 2, 1) := by decide +kernel
theorem dX5_choosePlan_25 : decode cX5_choosePlan 25 = .ok (.ishl, 1) := by decide +kernel
theorem dX5_choosePlan_26 : decode cX5_choosePlan 26 = .ok (.iastore, 1) := by decide +kernel
theorem dX5_choosePlan_27 : decode cX5_choosePlan 27 = .ok (.aload_n 0, 1) := by decide +kernel
theorem dX5_choosePlan_28 : decode cX5_choosePlan 28 = .ok (.getfield 36, 3) := by decide +kernel
theorem dX5_choosePlan_31 : decode cX5_choosePlan 31 = .ok (.iload_n 2, 1) := by decide +kernel
theorem dX5_choosePlan_32 : decode cX5_choosePlan 32 = .ok (.invokevirtual 88, 3) := by decide +kernel
theorem dX5_choosePlan_35 : decode cX5_choosePlan 35 = .ok (.ifCond .eq 35, 3) := by decide +kernel
theorem dX5_choosePlan_38 : decode cX5_choosePlan 38 = .ok (.aload_n 0, 1) := by decide +kernel
theorem dX5_choosePlan_39 : decode cX5_choosePlan 39 = .ok (.getfield 22, 3) := by decide +kernel
theorem dX5_choosePlan_42 : decode cX5_choosePlan 42 = .ok (.iload_n 2, 1) := by decide +kernel
theorem dX5_choosePlan_43 : decode cX5_choosePlan 43 = .ok (.iload_n 2, 1) := by decide +kernel
theorem dX5_choosePlan_44 : decode cX5_choosePlan 44 = .ok (.bipush 8, 2) := by decide +kernel
theorem dX5_choosePlan_46 : decode cX5_choosePlan 46 = .ok (.imul, 1) := by decide +kernel
theorem dX5_choosePlan_47 : decode cX5_choosePlan 47 = .ok (.aload_n 0, 1) := by decide +kernel
theorem dX5_choosePlan_48 : decode cX5_choosePlan 48 = .ok (.iload_n 1, 1) := by decide +kernel
theorem dX5_choosePlan_49 : decode cX5_choosePlan 49 = .ok (.iload_n 2, 1) := by decide +kernel
theorem dX5_choosePlan_50 : decode cX5_choosePlan 50 = .ok (.invokevirtual 98, 3) := by decide +kernel
theorem dX5_choosePlan_53 : decode cX5_choosePlan 53 = .ok (.iconst 0, 1) := by decide +kernel
theorem dX5_choosePlan_54 : decode cX5_choosePlan 54 = .ok (.invokestatic 102, 3) := by decide +kernel
theorem dX5_choosePlan_57 : decode cX5_choosePlan 57 = .ok (.iadd, 1) := by decide +kernel
theorem dX5_choosePlan_58 : decode cX5_choosePlan 58 = .ok (.iastore, 1) := by decide +kernel
theorem dX5_choosePlan_59 : decode cX5_choosePlan 59 = .ok (.aload_n 0, 1) := by decide +kernel
theorem dX5_choosePlan_60 : decode cX5_choosePlan 60 = .ok (.iload_n 2, 1) := by decide +kernel
theorem dX5_choosePlan_61 : decode cX5_choosePlan 61 = .ok (.aload_n 0, 1) := by decide +kernel
theorem dX5_choosePlan_62 : decode cX5_choosePlan 62 = .ok (.getfield 22, 3) := by decide +kernel
theorem dX5_choosePlan_65 : decode cX5_choosePlan 65 = .ok (.iload_n 2, 1) := by decide +kernel
theorem dX5_choosePlan_66 : decode cX5_choosePlan 66 = .ok (.iaload, 1) := by decide +kernel
theorem dX5_choosePlan_67 : decode cX5_choosePlan 67 = .ok (.invokevirtual 107, 3) := by decide +kernel
theorem dX5_choosePlan_70 : decode cX5_choosePlan 70 = .ok (.iinc 2 1, 3) := by decide +kernel
theorem dX5_choosePlan_73 : decode cX5_choosePlan 73 = .ok (.goto (-66), 3) := by decide +kernel
theorem dX5_choosePlan_76 : decode cX5_choosePlan 76 = .ok (.iconst 0, 1) := by decide +kernel
theorem dX5_choosePlan_77 : decode cX5_choosePlan 77 = .ok (.istore_n 2, 1) := by decide +kernel
theorem dX5_choosePlan_78 : decode cX5_choosePlan 78 = .ok (.iload_n 2, 1) := by decide +kernel
theorem dX5_choosePlan_79 : decode cX5_choosePlan 79 = .ok (.aload_n 0, 1) := by decide +kernel
theorem dX5_choosePlan_80 : decode cX5_choosePlan 80 = .ok (.getfield 36, 3) := by decide +kernel
theorem dX5_choosePlan_83 : decode cX5_choosePlan 83 = .ok (.getfield 63, 3) := by decide +kernel
theorem dX5_choosePlan_86 : decode cX5_choosePlan 86 = .ok (.if_icmp .ge 56, 3) := by decide +kernel
theorem dX5_choosePlan_89 : decode cX5_choosePlan 89 = .ok (.iconst 0, 1) := by decide +kernel
theorem dX5_choosePlan_90 : decode cX5_choosePlan 90 = .ok (.istore_n 3, 1) := by decide +kernel
theorem dX5_choosePlan_91 : decode cX5_choosePlan 91 = .ok (.iload_n 3, 1) := by decide +kernel
theorem dX5_choosePlan_92 : decode cX5_choosePlan 92 = .ok (.aload_n 0, 1) := by decide +kernel
theorem dX5_choosePlan_93 : decode cX5_choosePlan 93 = .ok (.getfield 36, 3) := by decide +kernel
theorem dX5_choosePlan_96 : decode cX5_choosePlan 96 = .ok (.getfield 63, 3) := by decide +kernel
theorem dX5_choosePlan_99 : decode cX5_choosePlan 99 = .ok (.if_icmp .ge 37, 3) := by decide +kernel
theorem dX5_choosePlan_102 : decode cX5_choosePlan 102 = .ok (.aload_n 0, 1) := by decide +kernel
theorem dX5_choosePlan_103 : decode cX5_choosePlan 103 = .ok (.getfield 25, 3) := by decide +kernel
theorem dX5_choosePlan_106 : decode cX5_choosePlan 106 = .ok (.iload_n 3, 1) := by decide +kernel
theorem dX5_choosePlan_107 : decode cX5_choosePlan 107 = .ok (.iaload, 1) := by decide +kernel
theorem dX5_choosePlan_108 : decode cX5_choosePlan 108 = .ok (.iload_n 2, 1) := by decide +kernel
theorem dX5_choosePlan_109 : decode cX5_choosePlan 109 = .ok (.ishr, 1) := by decide +kernel
theorem dX5_choosePlan_110 : decode cX5_choosePlan 110 = .ok (.iconst 1, 1) := by decide +kernel
theorem dX5_choosePlan_111 : decode cX5_choosePlan 111 = .ok (.iand, 1) := by decide +kernel
theorem dX5_choosePlan_112 : decode cX5_choosePlan 112 = .ok (.ifCond .eq 18, 3) := by decide +kernel
theorem dX5_choosePlan_115 : decode cX5_choosePlan 115 = .ok (.aload_n 0, 1) := by decide +kernel
theorem dX5_choosePlan_116 : decode cX5_choosePlan 116 = .ok (.getfield 25, 3) := by decide +kernel
theorem dX5_choosePlan_119 : decode cX5_choosePlan 119 = .ok (.iload_n 3, 1) := by decide +kernel
theorem dX5_choosePlan_120 : decode cX5_choosePlan 120 = .ok (.dup2, 1) := by decide +kernel
theorem dX5_choosePlan_121 : decode cX5_choosePlan 121 = .ok (.iaload, 1) := by decide +kernel
theorem dX5_choosePlan_122 : decode cX5_choosePlan 122 = .ok (.aload_n 0, 1) := by decide +kernel
theorem dX5_choosePlan_123 : decode cX5_choosePlan 123 = .ok (.getfield 25, 3) := by decide +kernel
theorem dX5_choosePlan_126 : decode cX5_choosePlan 126 = .ok (.iload_n 2, 1) := by decide +kernel
theorem dX5_choosePlan_127 : decode cX5_choosePlan 127 = .ok (.iaload, 1) := by decide +kernel
theorem dX5_choosePlan_128 : decode cX5_choosePlan 128 = .ok (.ior, 1) := by decide +kernel
theorem dX5_choosePlan_129 : decode cX5_choosePlan 129 = .ok (.iastore, 1) := by decide +kernel
theorem dX5_choosePlan_130 : decode cX5_choosePlan 130 = .ok (.iinc 3 1, 3) := by decide +kernel
theorem dX5_choosePlan_133 : decode cX5_choosePlan 133 = .ok (.goto (-42), 3) := by decide +kernel
theorem dX5_choosePlan_136 : decode cX5_choosePlan 136 = .ok (.iinc 2 1, 3) := by decide +kernel
theorem dX5_choosePlan_139 : decode cX5_choosePlan 139 = .ok (.goto (-61), 3) := by decide +kernel
theorem dX5_choosePlan_142 : decode cX5_choosePlan 142 = .ok (.return_, 1) := by decide +kernel
def mPl_choosePlan_B91 (k78 : Int32 → hI → Option (hI)) (k91 : Int32 → Int32 → hI → Option (hI)) (v2 : Int32) (v3 : Int32) (I : hI) : Option (hI) :=
  if (I 7 5) ≤ v3 then
    k78 (v2 + (1 : Int32)) I
  else
    (h_g (h_in v3 10) <|
    if (((I 18 v3.toNatClampNeg) >>> (v2 &&& 31)) &&& (1 : Int32)) = 0 then
      k91 v2 (v3 + (1 : Int32)) I
    else
      (h_g (h_in v3 10) <|
      h_g (h_in v2 10) <|
      h_g (h_in v3 10) <|
      h_let (h_u I 18 v3.toNatClampNeg ((I 18 v3.toNatClampNeg) ||| (I 18 v2.toNatClampNeg))) fun I5 =>
      k91 v2 (v3 + (1 : Int32)) I5))
set_option maxHeartbeats 4000000 in
theorem sPl_choosePlan_B91 (d : Nat) (hd : 1 + 1 ≤ d) (k78 : Int32 → hI → Option (hI)) (hk78 : ∀ (v2 : Int32) (I : hI) (J : hJ) (B : Bool × Bool) (q : hI), k78 v2 I = some q → AW hFT cX5_choosePlan 4 none RX5 kdC d [(0, .ref 13), (2, .int v2)] 78 [] (I, J, RM B) none (q, J, RM B)) (k91 : Int32 → Int32 → hI → Option (hI)) (hk91 : ∀ (v2 : Int32) (v3 : Int32) (I : hI) (J : hJ) (B : Bool × Bool) (q : hI), k91 v2 v3 I = some q → AW hFT cX5_choosePlan 4 none RX5 kdC d [(0, .ref 13), (2, .int v2), (3, .int v3)] 91 [] (I, J, RM B) none (q, J, RM B)) (v2 : Int32) (v3 : Int32) (I : hI) (J : hJ) (B : Bool × Bool) (q : hI) (h : mPl_choosePlan_B91 k78 k91 v2 v3 I = some q) : AW hFT cX5_choosePlan 4 none RX5 kdC d [(0, .ref 13), (2, .int v2), (3, .int v3)] 91 [] (I, J, RM B) none (q, J, RM B) := by
  obtain ⟨d0, rfl, hd0⟩ := h_mono hd
  unfold mPl_choosePlan_B91 at h
  refine a_iload_n dX5_choosePlan_91 rfl rfl ?_
  refine a_aload_n dX5_choosePlan_92 rfl rfl ?_
  refine b_getR hK_5 kc_13 (i := 0) rfl fl_5_36 rfl (rm_13_0 B) dX5_choosePlan_93 ?_
  refine b_getI hK_7 kc_7 (i := 5) rfl fl_5_63 rfl dX5_choosePlan_96 ?_
  refine a_icmp_ge (tgt := 136) dX5_choosePlan_99 (by decide) (fun c => ?_) (fun c => ?_)
  · replace h := h_iteT c h
    refine b_iinc (lv' := [(2, .int (v2 + (1 : Int32))), (0, .ref 13), (3, .int v3)]) dX5_choosePlan_136 rfl ic_1 (by decide) rfl ?_
    refine a_goto (tgt := 78) dX5_choosePlan_139 (by decide) ?_
    refine a_sub (lv' := [(0, .ref 13), (2, .int (v2 + (1 : Int32)))]) [1, 0] rfl ?_
    exact hk78 (v2 + (1 : Int32)) I J B _ h
  · replace h := h_iteF c h
    refine a_aload_n dX5_choosePlan_102 rfl rfl ?_
    refine b_getR hK_5 kc_13 (i := 6) rfl fl_5_25 rfl (rm_13_6 B) dX5_choosePlan_103 ?_
    refine a_iload_n dX5_choosePlan_106 rfl rfl ?_
    obtain ⟨g1, h⟩ := h_gS h
    refine b_iaload kc_18 (h_inV g1) dX5_choosePlan_107 ?_
    refine a_iload_n dX5_choosePlan_108 rfl rfl ?_
    refine a_ishr dX5_choosePlan_109 ?_
    refine a_iconst dX5_choosePlan_110 ic_1 ?_
    refine a_iand dX5_choosePlan_111 ?_
    refine a_if_eq (tgt := 130) dX5_choosePlan_112 (by decide) (fun c => ?_) (fun c => ?_)
    · replace h := h_iteT c h
      refine b_iinc (lv' := [(3, .int (v3 + (1 : Int32))), (0, .ref 13), (2, .int v2)]) dX5_choosePlan_130 rfl ic_1 (by decide) rfl ?_
      refine a_goto (tgt := 91) dX5_choosePlan_133 (by decide) ?_
      refine a_sub (lv' := [(0, .ref 13), (2, .int v2), (3, .int (v3 + (1 : Int32)))]) [1, 2, 0] rfl ?_
      exact hk91 v2 (v3 + (1 : Int32)) I J B _ h
    · replace h := h_iteF c h
      refine a_aload_n dX5_choosePlan_115 rfl rfl ?_
      refine b_getR hK_5 kc_13 (i := 6) rfl fl_5_25 rfl (rm_13_6 B) dX5_choosePlan_116 ?_
      refine a_iload_n dX5_choosePlan_119 rfl rfl ?_
      refine a_dup2_11 dX5_choosePlan_120 rfl rfl ?_
      obtain ⟨g2, h⟩ := h_gS h
      refine b_iaload kc_18 (h_inV g2) dX5_choosePlan_121 ?_
      refine a_aload_n dX5_choosePlan_122 rfl rfl ?_
      refine b_getR hK_5 kc_13 (i := 6) rfl fl_5_25 rfl (rm_13_6 B) dX5_choosePlan_123 ?_
      refine a_iload_n dX5_choosePlan_126 rfl rfl ?_
      obtain ⟨g3, h⟩ := h_gS h
      refine b_iaload kc_18 (h_inV g3) dX5_choosePlan_127 ?_
      refine a_ior dX5_choosePlan_128 ?_
      obtain ⟨g4, h⟩ := h_gS h
      refine b_iastore kc_18 (h_inV g4) dX5_choosePlan_129 ?_
      obtain ⟨I5, eI5, h⟩ := h_letS h
      refine a_memI eI5 ?_
      refine b_iinc (lv' := [(3, .int (v3 + (1 : Int32))), (0, .ref 13), (2, .int v2)]) dX5_choosePlan_130 rfl ic_1 (by decide) rfl ?_
      refine a_goto (tgt := 91) dX5_choosePlan_133 (by decide) ?_
      refine a_sub (lv' := [(0, .ref 13), (2, .int v2), (3, .int (v3 + (1 : Int32)))]) [1, 2, 0] rfl ?_
      exact hk91 v2 (v3 + (1 : Int32)) I5 J B _ h
def mPl_choosePlan_L91 (k78 : Int32 → hI → Option (hI)) : Nat → Int32 → Int32 → hI → Option (hI)
  | 0 => fun _ _ _ => none
  | n + 1 => mPl_choosePlan_B91 k78 (mPl_choosePlan_L91 k78 n)
theorem sPl_choosePlan_L91 (d : Nat) (hd : 1 + 1 ≤ d) (k78 : Int32 → hI → Option (hI)) (hk78 : ∀ (v2 : Int32) (I : hI) (J : hJ) (B : Bool × Bool) (q : hI), k78 v2 I = some q → AW hFT cX5_choosePlan 4 none RX5 kdC d [(0, .ref 13), (2, .int v2)] 78 [] (I, J, RM B) none (q, J, RM B)) : ∀ (n : Nat) (v2 : Int32) (v3 : Int32) (I : hI) (J : hJ) (B : Bool × Bool) (q : hI) (h : mPl_choosePlan_L91 k78 n v2 v3 I = some q), AW hFT cX5_choosePlan 4 none RX5 kdC d [(0, .ref 13), (2, .int v2), (3, .int v3)] 91 [] (I, J, RM B) none (q, J, RM B)
  | 0, _, _, _, _, _, q, h => by cases h
  | n + 1, v2, v3, I, J, B, q, h => sPl_choosePlan_B91 d hd k78 hk78 (mPl_choosePlan_L91 k78 n) (sPl_choosePlan_L91 d hd k78 hk78 n) v2 v3 I J B q h
def mPl_choosePlan_B78 (k78 : Int32 → hI → Option (hI)) (v2 : Int32) (I : hI) : Option (hI) :=
  if (I 7 5) ≤ v2 then
    some I
  else
    mPl_choosePlan_L91 k78 hF v2 (0 : Int32) I
set_option maxHeartbeats 4000000 in
theorem sPl_choosePlan_B78 (d : Nat) (hd : 1 + 1 ≤ d) (k78 : Int32 → hI → Option (hI)) (hk78 : ∀ (v2 : Int32) (I : hI) (J : hJ) (B : Bool × Bool) (q : hI), k78 v2 I = some q → AW hFT cX5_choosePlan 4 none RX5 kdC d [(0, .ref 13), (2, .int v2)] 78 [] (I, J, RM B) none (q, J, RM B)) (v2 : Int32) (I : hI) (J : hJ) (B : Bool × Bool) (q : hI) (h : mPl_choosePlan_B78 k78 v2 I = some q) : AW hFT cX5_choosePlan 4 none RX5 kdC d [(0, .ref 13), (2, .int v2)] 78 [] (I, J, RM B) none (q, J, RM B) := by
  obtain ⟨d0, rfl, hd0⟩ := h_mono hd
  unfold mPl_choosePlan_B78 at h
  refine a_iload_n dX5_choosePlan_78 rfl rfl ?_
  refine a_aload_n dX5_choosePlan_79 rfl rfl ?_
  refine b_getR hK_5 kc_13 (i := 0) rfl fl_5_36 rfl (rm_13_0 B) dX5_choosePlan_80 ?_
  refine b_getI hK_7 kc_7 (i := 5) rfl fl_5_63 rfl dX5_choosePlan_83 ?_
  refine a_icmp_ge (tgt := 142) dX5_choosePlan_86 (by decide) (fun c => ?_) (fun c => ?_)
  · replace h := h_iteT c h
    cases h
    exact a_vret dX5_choosePlan_142
  · replace h := h_iteF c h
    refine a_iconst dX5_choosePlan_89 ic_0 ?_
    refine a_istore_n (lv' := [(3, .int (0 : Int32)), (0, .ref 13), (2, .int v2)]) dX5_choosePlan_90 rfl (by decide) rfl ?_
    refine a_sub (lv' := [(0, .ref 13), (2, .int v2), (3, .int (0 : Int32))]) [1, 2, 0] rfl ?_
    exact sPl_choosePlan_L91 (d0 + 1) (by omega) k78 hk78 hF v2 (0 : Int32) I J B _ h
def mPl_choosePlan_L78  : Nat → Int32 → hI → Option (hI)
  | 0 => fun _ _ => none
  | n + 1 => mPl_choosePlan_B78 (mPl_choosePlan_L78 n)
theorem sPl_choosePlan_L78 (d : Nat) (hd : 1 + 1 ≤ d) : ∀ (n : Nat) (v2 : Int32) (I : hI) (J : hJ) (B : Bool × Bool) (q : hI) (h : mPl_choosePlan_L78 n v2 I = some q), AW hFT cX5_choosePlan 4 none RX5 kdC d [(0, .ref 13), (2, .int v2)] 78 [] (I, J, RM B) none (q, J, RM B)
  | 0, _, _, _, _, q, h => by cases h
  | n + 1, v2, I, J, B, q, h => sPl_choosePlan_B78 d hd (mPl_choosePlan_L78 n) (sPl_choosePlan_L78 d hd n) v2 I J B q h
def mPl_choosePlan_B7 (k7 : Int32 → Int32 → hI → Option (hI)) (v1 : Int32) (v2 : Int32) (I : hI) : Option (hI) :=
  if (I 7 5) ≤ v2 then
    mPl_choosePlan_L78 hF (0 : Int32) I
  else
    (h_g (h_in v2 10) <|
    h_let (h_u I 18 v2.toNatClampNeg ((1 : Int32) <<< (v2 &&& 31))) fun I2 =>
    if (mRo_isIn v2 I2) = 0 then
      k7 v1 (v2 + (1 : Int32)) I2
    else
      ((mPl_choiceOf v1 v2 I2).bind fun q3 =>
      h_g (h_in v2 10) <|
      h_let (h_u I2 17 v2.toNatClampNeg ((v2 * (8 : Int32)) + (if q3 < (0 : Int32) then (0 : Int32) else q3))) fun I5 =>
      h_g (h_in v2 10) <|
      (mPl_noteWays v2 (I5 17 v2.toNatClampNeg) I5).bind fun q7 =>
      k7 v1 (v2 + (1 : Int32)) q7))
set_option maxHeartbeats 4000000 in
theorem sPl_choosePlan_B7 (d : Nat) (hd : 1 + 1 ≤ d) (k7 : Int32 → Int32 → hI → Option (hI)) (hk7 : ∀ (v1 : Int32) (v2 : Int32) (I : hI) (J : hJ) (B : Bool × Bool) (q : hI), k7 v1 v2 I = some q → AW hFT cX5_choosePlan 4 none RX5 kdC d [(0, .ref 13), (1, .int v1), (2, .int v2)] 7 [] (I, J, RM B) none (q, J, RM B)) (v1 : Int32) (v2 : Int32) (I : hI) (J : hJ) (B : Bool × Bool) (q : hI) (h : mPl_choosePlan_B7 k7 v1 v2 I = some q) : AW hFT cX5_choosePlan 4 none RX5 kdC d [(0, .ref 13), (1, .int v1), (2, .int v2)] 7 [] (I, J, RM B) none (q, J, RM B) := by
  obtain ⟨d0, rfl, hd0⟩ := h_mono hd
  unfold mPl_choosePlan_B7 at h
  refine a_iload_n dX5_choosePlan_7 rfl rfl ?_
  refine a_aload_n dX5_choosePlan_8 rfl rfl ?_
  refine b_getR hK_5 kc_13 (i := 0) rfl fl_5_36 rfl (rm_13_0 B) dX5_choosePlan_9 ?_
  refine b_getI hK_7 kc_7 (i := 5) rfl fl_5_63 rfl dX5_choosePlan_12 ?_
  refine a_icmp_ge (tgt := 76) dX5_choosePlan_15 (by decide) (fun c => ?_) (fun c => ?_)
  · replace h := h_iteT c h
    refine a_iconst dX5_choosePlan_76 ic_0 ?_
    refine a_istore_n (lv' := [(2, .int (0 : Int32)), (0, .ref 13), (1, .int v1)]) dX5_choosePlan_77 rfl (by decide) rfl ?_
    refine a_sub (lv' := [(0, .ref 13), (2, .int (0 : Int32))]) [1, 0] rfl ?_
    exact sPl_choosePlan_L78 (d0 + 1) (by omega) hF (0 : Int32) I J B _ h
  · replace h := h_iteF c h
    refine a_aload_n dX5_choosePlan_18 rfl rfl ?_
    refine b_getR hK_5 kc_13 (i := 6) rfl fl_5_25 rfl (rm_13_6 B) dX5_choosePlan_19 ?_
    refine a_iload_n dX5_choosePlan_22 rfl rfl ?_
    refine a_iconst dX5_choosePlan_23 ic_1 ?_
    refine a_iload_n dX5_choosePlan_24 rfl rfl ?_
    refine a_ishl dX5_choosePlan_25 ?_
    obtain ⟨g1, h⟩ := h_gS h
    refine b_iastore kc_18 (h_inV g1) dX5_choosePlan_26 ?_
    obtain ⟨I2, eI2, h⟩ := h_letS h
    refine a_memI eI2 ?_
    refine a_aload_n dX5_choosePlan_27 rfl rfl ?_
    refine b_getR hK_5 kc_13 (i := 0) rfl fl_5_36 rfl (rm_13_0 B) dX5_choosePlan_28 ?_
    refine a_iload_n dX5_choosePlan_31 rfl rfl ?_
    refine a_callV1 [] yy_X7_isIn ml_5_88 kc_7 rfl (sRo_isIn _ (by omega) v2 I2 J B _ rfl) rfl rfl (Nat.le_of_ble_eq_true rfl) dX5_choosePlan_32 ?_
    refine a_if_eq (tgt := 70) dX5_choosePlan_35 (by decide) (fun c => ?_) (fun c => ?_)
    · replace h := h_iteT c h
      refine b_iinc (lv' := [(2, .int (v2 + (1 : Int32))), (0, .ref 13), (1, .int v1)]) dX5_choosePlan_70 rfl ic_1 (by decide) rfl ?_
      refine a_goto (tgt := 7) dX5_choosePlan_73 (by decide) ?_
      refine a_sub (lv' := [(0, .ref 13), (1, .int v1), (2, .int (v2 + (1 : Int32)))]) [1, 2, 0] rfl ?_
      exact hk7 v1 (v2 + (1 : Int32)) I2 J B _ h
    · replace h := h_iteF c h
      refine a_aload_n dX5_choosePlan_38 rfl rfl ?_
      refine b_getR hK_5 kc_13 (i := 5) rfl fl_5_22 rfl (rm_13_5 B) dX5_choosePlan_39 ?_
      refine a_iload_n dX5_choosePlan_42 rfl rfl ?_
      refine a_iload_n dX5_choosePlan_43 rfl rfl ?_
      refine a_bipush dX5_choosePlan_44 bp_8 ?_
      refine a_imul dX5_choosePlan_46 ?_
      refine a_aload_n dX5_choosePlan_47 rfl rfl ?_
      refine a_iload_n dX5_choosePlan_48 rfl rfl ?_
      refine a_iload_n dX5_choosePlan_49 rfl rfl ?_
      obtain ⟨q3, cq3, h⟩ := h_bindS h
      refine a_callV1 [.int (v2 * (8 : Int32)), .int v2, .ref 17] yy_X5_choiceOf ml_5_98 kc_13 rfl (sPl_choiceOf _ (by omega) v1 v2 I2 J B q3 cq3) rfl rfl (Nat.le_of_ble_eq_true rfl) dX5_choosePlan_50 ?_
      refine a_iconst dX5_choosePlan_53 ic_0 ?_
      refine a_mmax w_mmax ml_5_102 (Nat.le_of_ble_eq_true rfl) dX5_choosePlan_54 ?_
      refine a_iadd dX5_choosePlan_57 ?_
      obtain ⟨g4, h⟩ := h_gS h
      refine b_iastore kc_17 (h_inV g4) dX5_choosePlan_58 ?_
      obtain ⟨I5, eI5, h⟩ := h_letS h
      refine a_memI eI5 ?_
      refine a_aload_n dX5_choosePlan_59 rfl rfl ?_
      refine a_iload_n dX5_choosePlan_60 rfl rfl ?_
      refine a_aload_n dX5_choosePlan_61 rfl rfl ?_
      refine b_getR hK_5 kc_13 (i := 5) rfl fl_5_22 rfl (rm_13_5 B) dX5_choosePlan_62 ?_
      refine a_iload_n dX5_choosePlan_65 rfl rfl ?_
      obtain ⟨g6, h⟩ := h_gS h
      refine b_iaload kc_17 (h_inV g6) dX5_choosePlan_66 ?_
      obtain ⟨q7, cq7, h⟩ := h_bindS h
      refine a_callV0 [] yy_X5_noteWays ml_5_107 kc_13 rfl (sPl_noteWays _ (by omega) v2 (I5 17 v2.toNatClampNeg) I5 J B q7 cq7) rfl rfl (Nat.le_of_ble_eq_true rfl) dX5_choosePlan_67 ?_
      refine b_iinc (lv' := [(2, .int (v2 + (1 : Int32))), (0, .ref 13), (1, .int v1)]) dX5_choosePlan_70 rfl ic_1 (by decide) rfl ?_
      refine a_goto (tgt := 7) dX5_choosePlan_73 (by decide) ?_
      refine a_sub (lv' := [(0, .ref 13), (1, .int v1), (2, .int (v2 + (1 : Int32)))]) [1, 2, 0] rfl ?_
      exact hk7 v1 (v2 + (1 : Int32)) q7 J B _ h
def mPl_choosePlan_L7  : Nat → Int32 → Int32 → hI → Option (hI)
  | 0 => fun _ _ _ => none
  | n + 1 => mPl_choosePlan_B7 (mPl_choosePlan_L7 n)
theorem sPl_choosePlan_L7 (d : Nat) (hd : 1 + 1 ≤ d) : ∀ (n : Nat) (v1 : Int32) (v2 : Int32) (I : hI) (J : hJ) (B : Bool × Bool) (q : hI) (h : mPl_choosePlan_L7 n v1 v2 I = some q), AW hFT cX5_choosePlan 4 none RX5 kdC d [(0, .ref 13), (1, .int v1), (2, .int v2)] 7 [] (I, J, RM B) none (q, J, RM B)
  | 0, _, _, _, _, _, q, h => by cases h
  | n + 1, v1, v2, I, J, B, q, h => sPl_choosePlan_B7 d hd (mPl_choosePlan_L7 n) (sPl_choosePlan_L7 d hd n) v1 v2 I J B q h
def mPl_choosePlan  (v1 : Int32) (I : hI) : Option (hI) :=
  h_let (h_u I 13 9 (0 : Int32)) fun I1 =>
  mPl_choosePlan_L7 hF v1 (0 : Int32) I1
set_option maxHeartbeats 4000000 in
theorem sPl_choosePlan (d : Nat) (hd : 1 + 1 ≤ d) (v1 : Int32) (I : hI) (J : hJ) (B : Bool × Bool) (q : hI) (h : mPl_choosePlan v1 I = some q) : HMet hFT yX5_choosePlan cX5_choosePlan 4 none kdC d [.ref 13, .int v1] (I, J, RM B) none (q, J, RM B) := by
  obtain ⟨d0, rfl, hd0⟩ := h_mono hd
  refine HMet.of (by decide) (Nat.le_of_ble_eq_true rfl) ?_
  show AW hFT cX5_choosePlan 4 none RX5 kdC (d0 + 1) [(0, .ref 13), (1, .int v1)] 0 [] (I, J, RM B) none (q, J, RM B)
  unfold mPl_choosePlan at h
  refine a_aload_n dX5_choosePlan_0 rfl rfl ?_
  refine a_iconst dX5_choosePlan_1 ic_0 ?_
  refine b_putI hK_5 kc_13 (i := 9) rfl fl_5_95 rfl rfl (h_NI _) dX5_choosePlan_2 ?_
  obtain ⟨I1, eI1, h⟩ := h_letS h
  refine a_memI eI1 ?_
  refine a_iconst dX5_choosePlan_5 ic_0 ?_
  refine a_istore_n (lv' := [(2, .int (0 : Int32)), (0, .ref 13), (1, .int v1)]) dX5_choosePlan_6 rfl (by decide) rfl ?_
  refine a_sub (lv' := [(0, .ref 13), (1, .int v1), (2, .int (0 : Int32))]) [1, 2, 0] rfl ?_
  exact sPl_choosePlan_L7 (d0 + 1) (by omega) hF v1 (0 : Int32) I1 J B _ h
/-! CoinLoops$Plans.isStaying(I)Z -/
theorem dX5_isStaying_0 : decode cX5_isStaying 0 = .ok (.iconst 0, 1) := by decide +kernel
theorem dX5_isStaying_1 : decode cX5_isStaying 1 = .ok (.istore_n 2, 1) := by decide +kernel
theorem dX5_isStaying_2 : decode cX5_isStaying 2 = .ok (.iload_n 2, 1) := by decide +kernel
theorem dX5_isStaying_3 : decode cX5_isStaying 3 = .ok (.aload_n 0, 1) := by decide +kernel
theorem dX5_isStaying_4 : decode cX5_isStaying 4 = .ok (.getfield 36, 3) := by decide +kernel
theorem dX5_isStaying_7 : decode cX5_isStaying 7 = .ok (.getfield 63, 3) := by decide +kernel
theorem dX5_isStaying_10 : decode cX5_isStaying 10 = .ok (.if_icmp .ge 81, 3) := by decide +kernel
theorem dX5_isStaying_13 : decode cX5_isStaying 13 = .ok (.aload_n 0, 1) := by decide +kernel
theorem dX5_isStaying_14 : decode cX5_isStaying 14 = .ok (.getfield 25, 3) := by decide +kernel
theorem dX5_isStaying_17 : decode cX5_isStaying 17 = .ok (.iload_n 1, 1) := by decide +kernel
theorem dX5_isStaying_18 : decode cX5_isStaying 18 = .ok (.iaload, 1) := by decide +kernel
theorem dX5_isStaying_19 : decode cX5_isStaying 19 = .ok (.iload_n 2, 1) := by decide +kernel
theorem dX5_isStaying_20 : decode cX5_isStaying 20 = .ok (.ishr, 1) := by decide +kernel
theorem dX5_isStaying_21 : decode cX5_isStaying 21 = .ok (.iconst 1, 1) := by decide +kernel
theorem dX5_isStaying_22 : decode cX5_isStaying 22 = .ok (.iand, 1) := by decide +kernel
theorem dX5_isStaying_23 : decode cX5_isStaying 23 = .ok (.ifCond .eq 7, 3) := by decide +kernel
theorem dX5_isStaying_26 : decode cX5_isStaying 26 = .ok (.iconst 1, 1) := by decide +kernel
theorem dX5_isStaying_27 : decode cX5_isStaying 27 = .ok (.goto 4, 3) := by decide +kernel
theorem dX5_isStaying_30 : decode cX5_isStaying 30 = .ok (.iconst 0, 1) := by decide +kernel
theorem dX5_isStaying_31 : decode cX5_isStaying 31 = .ok (.istore_n 3, 1) := by decide +kernel
theorem dX5_isStaying_32 : decode cX5_isStaying 32 = .ok (.aload_n 0, 1) := by decide +kernel
theorem dX5_isStaying_33 : decode cX5_isStaying 33 = .ok (.getfield 36, 3) := by decide +kernel
theorem dX5_isStaying_36 : decode cX5_isStaying 36 = .ok (.iload_n 2, 1) := by decide +kernel
theorem dX5_isStaying_37 : decode cX5_isStaying 37 = .ok (.invokevirtual 88, 3) := by decide +kernel
theorem dX5_isStaying_40 : decode cX5_isStaying 40 = .ok (.ifCond .eq 27, 3) := by decide +kernel
theorem dX5_isStaying_43 : decode cX5_isStaying 43 = .ok (.aload_n 0, 1) := by decide +kernel
theorem dX5_isStaying_44 : decode cX5_isStaying 44 = .ok (.getfield 95, 3) := by decide +kernel
theorem dX5_isStaying_47 : decode cX5_isStaying 47 = .ok (.iload_n 2, 1) := by decide +kernel
theorem dX5_isStaying_48 : decode cX5_isStaying 48 = .ok (.ishr, 1) := by decide +kernel
theorem dX5_isStaying_49 : decode cX5_isStaying 49 = .ok (.iconst 1, 1) := by decide +kernel
theorem dX5_isStaying_50 : decode cX5_isStaying 50 = .ok (.iand, 1) := by decide +kernel
theorem dX5_isStaying_51 : decode cX5_isStaying 51 = .ok (.ifCond .ne 16, 3) := by decide +kernel
theorem dX5_isStaying_54 : decode cX5_isStaying 54 = .ok (.aload_n 0, 1) := by decide +kernel
theorem dX5_isStaying_55 : decode cX5_isStaying 55 = .ok (.getfield 25, 3) := by decide +kernel
theorem dX5_isStaying_58 : decode cX5_isStaying 58 = .ok (.iload_n 2, 1) := by decide +kernel
theorem dX5_isStaying_59 : decode cX5_isStaying 59 = .ok (.iaload, 1) := by decide +kernel
theorem dX5_isStaying_60 : decode cX5_isStaying 60 = .ok (.iload_n 1, 1) := by decide +kernel
theorem dX5_isStaying_61 : decode cX5_isStaying 61 = .ok (.ishr, 1) := by decide +kernel
theorem dX5_isStaying_62 : decode cX5_isStaying 62 = .ok (.iconst 1, 1) := by decide +kernel
theorem dX5_isStaying_63 : decode cX5_isStaying 63 = .ok (.iand, 1) := by decide +kernel
theorem dX5_isStaying_64 : decode cX5_isStaying 64 = .ok (.ifCond .ne 7, 3) := by decide +kernel
theorem dX5_isStaying_67 : decode cX5_isStaying 67 = .ok (.iconst 1, 1) := by decide +kernel
theorem dX5_isStaying_68 : decode cX5_isStaying 68 = .ok (.goto 4, 3) := by decide +kernel
theorem dX5_isStaying_71 : decode cX5_isStaying 71 = .ok (.iconst 0, 1) := by decide +kernel
theorem dX5_isStaying_72 : decode cX5_isStaying 72 = .ok (.istore 4, 2) := by decide +kernel
theorem dX5_isStaying_74 : decode cX5_isStaying 74 = .ok (.iload_n 3, 1) := by decide +kernel
theorem dX5_isStaying_75 : decode cX5_isStaying 75 = .ok (.ifCond .eq 10, 3) := by decide +kernel
theorem dX5_isStaying_78 : decode cX5_isStaying 78 = .ok (.iload 4, 2) := by decide +kernel
theorem dX5_isStaying_80 : decode cX5_isStaying 80 = .ok (.ifCond .eq 5, 3) := by decide +kernel
theorem dX5_isStaying_83 : decode cX5_isStaying 83 = .ok (.iconst 0, 1) := by decide +kernel
theorem dX5_isStaying_84 : decode cX5_isStaying 84 = .ok (.ireturn, 1) := by decide +kernel
theorem dX5_isStaying_85 : decode cX5_isStaying 85 = .ok (.iinc 2 1, 3) := by decide +kernel
theorem dX5_isStaying_88 : decode cX5_isStaying 88 = .ok (.goto (-86), 3) := by decide +kernel
theorem dX5_isStaying_91 : decode cX5_isStaying 91 = .ok (.iconst 1, 1) := by decide +kernel
theorem dX5_isStaying_92 : decode cX5_isStaying 92 = .ok (.ireturn, 1) := by decide +kernel
def mPl_isStaying_72 (k2 : Int32 → Int32 → hI → Option (Int32)) (v1 : Int32) (v2 : Int32) (v3 : Int32) (vs0 : Int32) (I : hI) : Option (Int32) :=
  if v3 = 0 then
    k2 v1 (v2 + (1 : Int32)) I
  else
    (if vs0 = 0 then
      k2 v1 (v2 + (1 : Int32)) I
    else
      some (0 : Int32))
set_option maxHeartbeats 4000000 in
theorem sPl_isStaying_72 (d : Nat) (hd : 0 + 1 ≤ d) (k2 : Int32 → Int32 → hI → Option (Int32)) (hk2 : ∀ (v1 : Int32) (v2 : Int32) (I : hI) (J : hJ) (B : Bool × Bool) (q : Int32), k2 v1 v2 I = some q → AW hFT cX5_isStaying 5 (some .boolean) RX5 kdC d [(0, .ref 13), (1, .int v1), (2, .int v2)] 2 [] (I, J, RM B) (some (.int q)) (I, J, RM B)) (v1 : Int32) (v2 : Int32) (v3 : Int32) (vs0 : Int32) (I : hI) (J : hJ) (B : Bool × Bool) (q : Int32) (h : mPl_isStaying_72 k2 v1 v2 v3 vs0 I = some q) : AW hFT cX5_isStaying 5 (some .boolean) RX5 kdC d [(0, .ref 13), (1, .int v1), (2, .int v2), (3, .int v3)] 72 [.int vs0] (I, J, RM B) (some (.int q)) (I, J, RM B) := by
  obtain ⟨d0, rfl, hd0⟩ := h_mono hd
  unfold mPl_isStaying_72 at h
  refine a_istore (lv' := [(4, .int vs0), (0, .ref 13), (1, .int v1), (2, .int v2), (3, .int v3)]) dX5_isStaying_72 (by decide) rfl ?_
  refine a_iload_n dX5_isStaying_74 rfl rfl ?_
  refine a_if_eq (tgt := 85) dX5_isStaying_75 (by decide) (fun c => ?_) (fun c => ?_)
  · replace h := h_iteT c h
    refine b_iinc (lv' := [(2, .int (v2 + (1 : Int32))), (4, .int vs0), (0, .ref 13), (1, .int v1), (3, .int v3)]) dX5_isStaying_85 rfl ic_1 (by decide) rfl ?_
    refine a_goto (tgt := 2) dX5_isStaying_88 (by decide) ?_
    refine a_sub (lv' := [(0, .ref 13), (1, .int v1), (2, .int (v2 + (1 : Int32)))]) [2, 3, 0] rfl ?_
    exact hk2 v1 (v2 + (1 : Int32)) I J B _ h
  · replace h := h_iteF c h
    refine a_iload dX5_isStaying_78 rfl ?_
    refine a_if_eq (tgt := 85) dX5_isStaying_80 (by decide) (fun c => ?_) (fun c => ?_)
    · replace h := h_iteT c h
      refine b_iinc (lv' := [(2, .int (v2 + (1 : Int32))), (4, .int vs0), (0, .ref 13), (1, .int v1), (3, .int v3)]) dX5_isStaying_85 rfl ic_1 (by decide) rfl ?_
      refine a_goto (tgt := 2) dX5_isStaying_88 (by decide) ?_
      refine a_sub (lv' := [(0, .ref 13), (1, .int v1), (2, .int (v2 + (1 : Int32)))]) [2, 3, 0] rfl ?_
      exact hk2 v1 (v2 + (1 : Int32)) I J B _ h
    · replace h := h_iteF c h
      refine a_iconst dX5_isStaying_83 ic_0 ?_
      cases h
      exact a_zret (h_Z0.1) dX5_isStaying_84
def mPl_isStaying_31 (k2 : Int32 → Int32 → hI → Option (Int32)) (v1 : Int32) (v2 : Int32) (vs0 : Int32) (I : hI) : Option (Int32) :=
  if (mRo_isIn v2 I) = 0 then
    mPl_isStaying_72 k2 v1 v2 vs0 (1 : Int32) I
  else
    (if (((I 13 9) >>> (v2 &&& 31)) &&& (1 : Int32)) = 0 then
      (h_g (h_in v2 10) <|
      if (((I 18 v2.toNatClampNeg) >>> (v1 &&& 31)) &&& (1 : Int32)) = 0 then
        mPl_isStaying_72 k2 v1 v2 vs0 (1 : Int32) I
      else
        mPl_isStaying_72 k2 v1 v2 vs0 (0 : Int32) I)
    else
      mPl_isStaying_72 k2 v1 v2 vs0 (1 : Int32) I)
set_option maxHeartbeats 4000000 in
theorem sPl_isStaying_31 (d : Nat) (hd : 0 + 1 ≤ d) (k2 : Int32 → Int32 → hI → Option (Int32)) (hk2 : ∀ (v1 : Int32) (v2 : Int32) (I : hI) (J : hJ) (B : Bool × Bool) (q : Int32), k2 v1 v2 I = some q → AW hFT cX5_isStaying 5 (some .boolean) RX5 kdC d [(0, .ref 13), (1, .int v1), (2, .int v2)] 2 [] (I, J, RM B) (some (.int q)) (I, J, RM B)) (v1 : Int32) (v2 : Int32) (vs0 : Int32) (I : hI) (J : hJ) (B : Bool × Bool) (q : Int32) (h : mPl_isStaying_31 k2 v1 v2 vs0 I = some q) : AW hFT cX5_isStaying 5 (some .boolean) RX5 kdC d [(0, .ref 13), (1, .int v1), (2, .int v2)] 31 [.int vs0] (I, J, RM B) (some (.int q)) (I, J, RM B) := by
  obtain ⟨d0, rfl, hd0⟩ := h_mono hd
  unfold mPl_isStaying_31 at h
  refine a_istore_n (lv' := [(3, .int vs0), (0, .ref 13), (1, .int v1), (2, .int v2)]) dX5_isStaying_31 rfl (by decide) rfl ?_
  refine a_aload_n dX5_isStaying_32 rfl rfl ?_
  refine b_getR hK_5 kc_13 (i := 0) rfl fl_5_36 rfl (rm_13_0 B) dX5_isStaying_33 ?_
  refine a_iload_n dX5_isStaying_36 rfl rfl ?_
  refine a_callV1 [] yy_X7_isIn ml_5_88 kc_7 rfl (sRo_isIn _ (by omega) v2 I J B _ rfl) rfl rfl (Nat.le_of_ble_eq_true rfl) dX5_isStaying_37 ?_
  refine a_if_eq (tgt := 67) dX5_isStaying_40 (by decide) (fun c => ?_) (fun c => ?_)
  · replace h := h_iteT c h
    refine a_iconst dX5_isStaying_67 ic_1 ?_
    refine a_goto (tgt := 72) dX5_isStaying_68 (by decide) ?_
    refine a_sub (lv' := [(0, .ref 13), (1, .int v1), (2, .int v2), (3, .int vs0)]) [1, 2, 3, 0] rfl ?_
    exact sPl_isStaying_72 (d0 + 1) (by omega) k2 hk2 v1 v2 vs0 (1 : Int32) I J B _ h
  · replace h := h_iteF c h
    refine a_aload_n dX5_isStaying_43 rfl rfl ?_
    refine b_getI hK_5 kc_13 (i := 9) rfl fl_5_95 rfl dX5_isStaying_44 ?_
    refine a_iload_n dX5_isStaying_47 rfl rfl ?_
    refine a_ishr dX5_isStaying_48 ?_
    refine a_iconst dX5_isStaying_49 ic_1 ?_
    refine a_iand dX5_isStaying_50 ?_
    refine a_if_ne (tgt := 67) dX5_isStaying_51 (by decide) (fun c => ?_) (fun c => ?_)
    · replace h := h_iteF c h
      refine a_iconst dX5_isStaying_67 ic_1 ?_
      refine a_goto (tgt := 72) dX5_isStaying_68 (by decide) ?_
      refine a_sub (lv' := [(0, .ref 13), (1, .int v1), (2, .int v2), (3, .int vs0)]) [1, 2, 3, 0] rfl ?_
      exact sPl_isStaying_72 (d0 + 1) (by omega) k2 hk2 v1 v2 vs0 (1 : Int32) I J B _ h
    · replace h := h_iteT c h
      refine a_aload_n dX5_isStaying_54 rfl rfl ?_
      refine b_getR hK_5 kc_13 (i := 6) rfl fl_5_25 rfl (rm_13_6 B) dX5_isStaying_55 ?_
      refine a_iload_n dX5_isStaying_58 rfl rfl ?_
      obtain ⟨g1, h⟩ := h_gS h
      refine b_iaload kc_18 (h_inV g1) dX5_isStaying_59 ?_
      refine a_iload_n dX5_isStaying_60 rfl rfl ?_
      refine a_ishr dX5_isStaying_61 ?_
      refine a_iconst dX5_isStaying_62 ic_1 ?_
      refine a_iand dX5_isStaying_63 ?_
      refine a_if_ne (tgt := 71) dX5_isStaying_64 (by decide) (fun c => ?_) (fun c => ?_)
      · replace h := h_iteF c h
        refine a_iconst dX5_isStaying_71 ic_0 ?_
        refine a_sub (lv' := [(0, .ref 13), (1, .int v1), (2, .int v2), (3, .int vs0)]) [1, 2, 3, 0] rfl ?_
        exact sPl_isStaying_72 (d0 + 1) (by omega) k2 hk2 v1 v2 vs0 (0 : Int32) I J B _ h
      · replace h := h_iteT c h
        refine a_iconst dX5_isStaying_67 ic_1 ?_
        refine a_goto (tgt := 72) dX5_isStaying_68 (by decide) ?_
        refine a_sub (lv' := [(0, .ref 13), (1, .int v1), (2, .int v2), (3, .int vs0)]) [1, 2, 3, 0] rfl ?_
        exact sPl_isStaying_72 (d0 + 1) (by omega) k2 hk2 v1 v2 vs0 (1 : Int32) I J B _ h
def mPl_isStaying_B2 (k2 : Int32 → Int32 → hI → Option (Int32)) (v1 : Int32) (v2 : Int32) (I : hI) : Option (Int32) :=
  if (I 7 5) ≤ v2 then
    some (1 : Int32)
  else
    (h_g (h_in v1 10) <|
    if (((I 18 v1.toNatClampNeg) >>> (v2 &&& 31)) &&& (1 : Int32)) = 0 then
      mPl_isStaying_31 k2 v1 v2 (0 : Int32) I
    else
      mPl_isStaying_31 k2 v1 v2 (1 : Int32) I)
set_option maxHeartbeats 4000000 in
theorem sPl_isStaying_B2 (d : Nat) (hd : 0 + 1 ≤ d) (k2 : Int32 → Int32 → hI → Option (Int32)) (hk2 : ∀ (v1 : Int32) (v2 : Int32) (I : hI) (J : hJ) (B : Bool × Bool) (q : Int32), k2 v1 v2 I = some q → AW hFT cX5_isStaying 5 (some .boolean) RX5 kdC d [(0, .ref 13), (1, .int v1), (2, .int v2)] 2 [] (I, J, RM B) (some (.int q)) (I, J, RM B)) (v1 : Int32) (v2 : Int32) (I : hI) (J : hJ) (B : Bool × Bool) (q : Int32) (h : mPl_isStaying_B2 k2 v1 v2 I = some q) : AW hFT cX5_isStaying 5 (some .boolean) RX5 kdC d [(0, .ref 13), (1, .int v1), (2, .int v2)] 2 [] (I, J, RM B) (some (.int q)) (I, J, RM B) := by
  obtain ⟨d0, rfl, hd0⟩ := h_mono hd
  unfold mPl_isStaying_B2 at h
  refine a_iload_n dX5_isStaying_2 rfl rfl ?_
  refine a_aload_n dX5_isStaying_3 rfl rfl ?_
  refine b_getR hK_5 kc_13 (i := 0) rfl fl_5_36 rfl (rm_13_0 B) dX5_isStaying_4 ?_
  refine b_getI hK_7 kc_7 (i := 5) rfl fl_5_63 rfl dX5_isStaying_7 ?_
  refine a_icmp_ge (tgt := 91) dX5_isStaying_10 (by decide) (fun c => ?_) (fun c => ?_)
  · replace h := h_iteT c h
    refine a_iconst dX5_isStaying_91 ic_1 ?_
    cases h
    exact a_zret (h_Z1.1) dX5_isStaying_92
  · replace h := h_iteF c h
    refine a_aload_n dX5_isStaying_13 rfl rfl ?_
    refine b_getR hK_5 kc_13 (i := 6) rfl fl_5_25 rfl (rm_13_6 B) dX5_isStaying_14 ?_
    refine a_iload_n dX5_isStaying_17 rfl rfl ?_
    obtain ⟨g1, h⟩ := h_gS h
    refine b_iaload kc_18 (h_inV g1) dX5_isStaying_18 ?_
    refine a_iload_n dX5_isStaying_19 rfl rfl ?_
    refine a_ishr dX5_isStaying_20 ?_
    refine a_iconst dX5_isStaying_21 ic_1 ?_
    refine a_iand dX5_isStaying_22 ?_
    refine a_if_eq (tgt := 30) dX5_isStaying_23 (by decide) (fun c => ?_) (fun c => ?_)
    · replace h := h_iteT c h
      refine a_iconst dX5_isStaying_30 ic_0 ?_
      exact sPl_isStaying_31 (d0 + 1) (by omega) k2 hk2 v1 v2 (0 : Int32) I J B _ h
    · replace h := h_iteF c h
      refine a_iconst dX5_isStaying_26 ic_1 ?_
      refine a_goto (tgt := 31) dX5_isStaying_27 (by decide) ?_
      exact sPl_isStaying_31 (d0 + 1) (by omega) k2 hk2 v1 v2 (1 : Int32) I J B _ h
def mPl_isStaying_L2  : Nat → Int32 → Int32 → hI → Option (Int32)
  | 0 => fun _ _ _ => none
  | n + 1 => mPl_isStaying_B2 (mPl_isStaying_L2 n)
theorem sPl_isStaying_L2 (d : Nat) (hd : 0 + 1 ≤ d) : ∀ (n : Nat) (v1 : Int32) (v2 : Int32) (I : hI) (J : hJ) (B : Bool × Bool) (q : Int32) (h : mPl_isStaying_L2 n v1 v2 I = some q), AW hFT cX5_isStaying 5 (some .boolean) RX5 kdC d [(0, .ref 13), (1, .int v1), (2, .int v2)] 2 [] (I, J, RM B) (some (.int q)) (I, J, RM B)
  | 0, _, _, _, _, _, q, h => by cases h
  | n + 1, v1, v2, I, J, B, q, h => sPl_isStaying_B2 d hd (mPl_isStaying_L2 n) (sPl_isStaying_L2 d hd n) v1 v2 I J B q h
def mPl_isStaying  (v1 : Int32) (I : hI) : Option (Int32) :=
  mPl_isStaying_L2 hF v1 (0 : Int32) I
set_option maxHeartbeats 4000000 in
theorem sPl_isStaying (d : Nat) (hd : 0 + 1 ≤ d) (v1 : Int32) (I : hI) (J : hJ) (B : Bool × Bool) (q : Int32) (h : mPl_isStaying v1 I = some q) : HMet hFT yX5_isStaying cX5_isStaying 5 (some .boolean) kdC d [.ref 13, .int v1] (I, J, RM B) (some (.int q)) (I, J, RM B) := by
  obtain ⟨d0, rfl, hd0⟩ := h_mono hd
  refine HMet.of (by decide) (Nat.le_of_ble_eq_true rfl) ?_
  show AW hFT cX5_isStaying 5 (some .boolean) RX5 kdC (d0 + 1) [(0, .ref 13), (1, .int v1)] 0 [] (I, J, RM B) (some (.int q)) (I, J, RM B)
  unfold mPl_isStaying at h
  refine a_iconst dX5_isStaying_0 ic_0 ?_
  refine a_istore_n (lv' := [(2, .int (0 : Int32)), (0, .ref 13), (1, .int v1)]) dX5_isStaying_1 rfl (by decide) rfl ?_
  refine a_sub (lv' := [(0, .ref 13), (1, .int v1), (2, .int (0 : Int32))]) [1, 2, 0] rfl ?_
  exact sPl_isStaying_L2 (d0 + 1) (by omega) hF v1 (0 : Int32) I J B _ h
/-! CoinLoops$Plans.findStaying()V -/
theorem dX5_findStaying_0 : decode cX5_findStaying 0 = .ok (.aload_n 0, 1) := by decide +kernel
theorem dX5_findStaying_1 : decode cX5_findStaying 1 = .ok (.iconst 0, 1) := by decide +kernel
theorem dX5_findStaying_2 : decode cX5_findStaying 2 = .ok (.putfield 116, 3) := by decide +kernel
theorem dX5_findStaying_5 : decode cX5_findStaying 5 = .ok (.iconst 0, 1) := by decide +kernel
theorem dX5_findStaying_6 : decode cX5_findStaying 6 = .ok (.istore_n 1, 1) := by decide +kernel
theorem dX5_findStaying_7 : decode cX5_findStaying 7 = .ok (.iload_n 1, 1) := by decide +kernel
theorem dX5_findStaying_8 : decode cX5_findStaying 8 = .ok (.aload_n 0, 1) := by decide +kernel
theorem dX5_findStaying_9 : decode cX5_findStaying 9 = .ok (.getfield 36, 3) := by decide +kernel
theorem dX5_findStaying_12 : decode cX5_findStaying 12 = .ok (.getfield 63, 3) := by decide +kernel
theorem dX5_findStaying_15 : decode cX5_findStaying 15 = .ok (.if_icmp .ge 40, 3) := by decide +kernel
theorem dX5_findStaying_18 : decode cX5_findStaying 18 = .ok (.aload_n 0, 1) := by decide +kernel
theorem dX5_findStaying_19 : decode cX5_findStaying 19 = .ok (.getfield 36, 3) := by decide +kernel
theorem dX5_findStaying_22 : decode cX5_findStaying 22 = .ok (.iload_n 1, 1) := by decide +kernel
theorem dX5_findStaying_23 : decode cX5_findStaying 23 = .ok (.invokevirtual 88, 3) := by decide +kernel
theorem dX5_findStaying_26 : decode cX5_findStaying 26 = .ok (.ifCond .eq 23, 3) := by decide +kernel
theorem dX5_findStaying_29 : decode cX5_findStaying 29 = .ok (.aload_n 0, 1) := by decide +kernel
theorem dX5_findStaying_30 : decode cX5_findStaying 30 = .ok (.iload_n 1, 1) := by decide +kernel
theorem dX5_findStaying_31 : decode cX5_findStaying 31 = .ok (.invokevirtual 119, 3) := by decide +kernel
theorem dX5_findStaying_34 : decode cX5_findStaying 34 = .ok (.ifCond .eq 15, 3) := by decide +kernel
theorem dX5_findStaying_37 : decode cX5_findStaying 37 = .ok (.aload_n 0, 1) := by decide +kernel
theorem dX5_findStaying_38 : decode cX5_findStaying 38 = .ok (.dup, 1) := by decide +kernel
theorem dX5_findStaying_39 : decode cX5_findStaying 39 = .ok (.getfield 116, 3) := by decide +kernel
theorem dX5_findStaying_42 : decode cX5_findStaying 42 = .ok (.iconst 1, 1) := by decide +kernel
theorem dX5_findStaying_43 : decode cX5_findStaying 43 = .ok (.iload_n 1, 1) := by decide +kernel
theorem dX5_findStaying_44 : decode cX5_findStaying 44 = .ok (.ishl, 1) := by decide +kernel
theorem dX5_findStaying_45 : decode cX5_findStaying 45 = .ok (.ior, 1) := by decide +kernel
theorem dX5_findStaying_46 : decode cX5_findStaying 46 = .ok (.putfield 116, 3) := by decide +kernel
theorem dX5_findStaying_49 : decode cX5_findStaying 49 = .ok (.iinc 1 1, 3) := by decide +kernel
theorem dX5_findStaying_52 : decode cX5_findStaying 52 = .ok (.goto (-45), 3) := by decide +kernel
theorem dX5_findStaying_55 : decode cX5_findStaying 55 = .ok (.return_, 1) := by decide +kernel
def mPl_findStaying_B7 (k7 : Int32 → hI → Option (hI)) (v1 : Int32) (I : hI) : Option (hI) :=
  if (I 7 5) ≤ v1 then
    some I
  else
    (if (mRo_isIn v1 I) = 0 then
      k7 (v1 + (1 : Int32)) I
    else
      ((mPl_isStaying v1 I).bind fun q1 =>
      if q1 = 0 then
        k7 (v1 + (1 : Int32)) I
      else
        (h_let (h_u I 13 10 ((I 13 10) ||| ((1 : Int32) <<< (v1 &&& 31)))) fun I2 =>
        k7 (v1 + (1 : Int32)) I2)))
set_option maxHeartbeats 4000000 in
theorem sPl_findStaying_B7 (d : Nat) (hd : 1 + 1 ≤ d) (k7 : Int32 → hI → Option (hI)) (hk7 : ∀ (v1 : Int32) (I : hI) (J : hJ) (B : Bool × Bool) (q : hI), k7 v1 I = some q → AW hFT cX5_findStaying 2 none RX5 kdC d [(0, .ref 13), (1, .int v1)] 7 [] (I, J, RM B) none (q, J, RM B)) (v1 : Int32) (I : hI) (J : hJ) (B : Bool × Bool) (q : hI) (h : mPl_findStaying_B7 k7 v1 I = some q) : AW hFT cX5_findStaying 2 none RX5 kdC d [(0, .ref 13), (1, .int v1)] 7 [] (I, J, RM B) none (q, J, RM B) := by
  obtain ⟨d0, rfl, hd0⟩ := h_mono hd
  unfold mPl_findStaying_B7 at h
  refine a_iload_n dX5_findStaying_7 rfl rfl ?_
  refine a_aload_n dX5_findStaying_8 rfl rfl ?_
  refine b_getR hK_5 kc_13 (i := 0) rfl fl_5_36 rfl (rm_13_0 B) dX5_findStaying_9 ?_
  refine b_getI hK_7 kc_7 (i := 5) rfl fl_5_63 rfl dX5_findStaying_12 ?_
  refine a_icmp_ge (tgt := 55) dX5_findStaying_15 (by decide) (fun c => ?_) (fun c => ?_)
  · replace h := h_iteT c h
    cases h
    exact a_vret dX5_findStaying_55
  · replace h := h_iteF c h
    refine a_aload_n dX5_findStaying_18 rfl rfl ?_
    refine b_getR hK_5 kc_13 (i := 0) rfl fl_5_36 rfl (rm_13_0 B) dX5_findStaying_19 ?_
    refine a_iload_n dX5_findStaying_22 rfl rfl ?_
    refine a_callV1 [] yy_X7_isIn ml_5_88 kc_7 rfl (sRo_isIn _ (by omega) v1 I J B _ rfl) rfl rfl (Nat.le_of_ble_eq_true rfl) dX5_findStaying_23 ?_
    refine a_if_eq (tgt := 49) dX5_findStaying_26 (by decide) (fun c => ?_) (fun c => ?_)
    · replace h := h_iteT c h
      refine b_iinc (lv' := [(1, .int (v1 + (1 : Int32))), (0, .ref 13)]) dX5_findStaying_49 rfl ic_1 (by decide) rfl ?_
      refine a_goto (tgt := 7) dX5_findStaying_52 (by decide) ?_
      refine a_sub (lv' := [(0, .ref 13), (1, .int (v1 + (1 : Int32)))]) [1, 0] rfl ?_
      exact hk7 (v1 + (1 : Int32)) I J B _ h
    · replace h := h_iteF c h
      refine a_aload_n dX5_findStaying_29 rfl rfl ?_
      refine a_iload_n dX5_findStaying_30 rfl rfl ?_
      obtain ⟨q1, cq1, h⟩ := h_bindS h
      refine a_callV1 [] yy_X5_isStaying ml_5_119 kc_13 rfl (sPl_isStaying _ (by omega) v1 I J B q1 cq1) rfl rfl (Nat.le_of_ble_eq_true rfl) dX5_findStaying_31 ?_
      refine a_if_eq (tgt := 49) dX5_findStaying_34 (by decide) (fun c => ?_) (fun c => ?_)
      · replace h := h_iteT c h
        refine b_iinc (lv' := [(1, .int (v1 + (1 : Int32))), (0, .ref 13)]) dX5_findStaying_49 rfl ic_1 (by decide) rfl ?_
        refine a_goto (tgt := 7) dX5_findStaying_52 (by decide) ?_
        refine a_sub (lv' := [(0, .ref 13), (1, .int (v1 + (1 : Int32)))]) [1, 0] rfl ?_
        exact hk7 (v1 + (1 : Int32)) I J B _ h
      · replace h := h_iteF c h
        refine a_aload_n dX5_findStaying_37 rfl rfl ?_
        refine a_dup dX5_findStaying_38 rfl ?_
        refine b_getI hK_5 kc_13 (i := 10) rfl fl_5_116 rfl dX5_findStaying_39 ?_
        refine a_iconst dX5_findStaying_42 ic_1 ?_
        refine a_iload_n dX5_findStaying_43 rfl rfl ?_
        refine a_ishl dX5_findStaying_44 ?_
        refine a_ior dX5_findStaying_45 ?_
        refine b_putI hK_5 kc_13 (i := 10) rfl fl_5_116 rfl rfl (h_NI _) dX5_findStaying_46 ?_
        obtain ⟨I2, eI2, h⟩ := h_letS h
        refine a_memI eI2 ?_
        refine b_iinc (lv' := [(1, .int (v1 + (1 : Int32))), (0, .ref 13)]) dX5_findStaying_49 rfl ic_1 (by decide) rfl ?_
        refine a_goto (tgt := 7) dX5_findStaying_52 (by decide) ?_
        refine a_sub (lv' := [(0, .ref 13), (1, .int (v1 + (1 : Int32)))]) [1, 0] rfl ?_
        exact hk7 (v1 + (1 : Int32)) I2 J B _ h
def mPl_findStaying_L7  : Nat → Int32 → hI → Option (hI)
  | 0 => fun _ _ => none
  | n + 1 => mPl_findStaying_B7 (mPl_findStaying_L7 n)
theorem sPl_findStaying_L7 (d : Nat) (hd : 1 + 1 ≤ d) : ∀ (n : Nat) (v1 : Int32) (I : hI) (J : hJ) (B : Bool × Bool) (q : hI) (h : mPl_findStaying_L7 n v1 I = some q), AW hFT cX5_findStaying 2 none RX5 kdC d [(0, .ref 13), (1, .int v1)] 7 [] (I, J, RM B) none (q, J, RM B)
  | 0, _, _, _, _, q, h => by cases h
  | n + 1, v1, I, J, B, q, h => sPl_findStaying_B7 d hd (mPl_findStaying_L7 n) (sPl_findStaying_L7 d hd n) v1 I J B q h
def mPl_findStaying   (I : hI) : Option (hI) :=
  h_let (h_u I 13 10 (0 : Int32)) fun I1 =>
  mPl_findStaying_L7 hF (0 : Int32) I1
set_option maxHeartbeats 4000000 in
theorem sPl_findStaying (d : Nat) (hd : 1 + 1 ≤ d)  (I : hI) (J : hJ) (B : Bool × Bool) (q : hI) (h : mPl_findStaying I = some q) : HMet hFT yX5_findStaying cX5_findStaying 2 none kdC d [.ref 13] (I, J, RM B) none (q, J, RM B) := by
  obtain ⟨d0, rfl, hd0⟩ := h_mono hd
  refine HMet.of (by decide) (Nat.le_of_ble_eq_true rfl) ?_
  show AW hFT cX5_findStaying 2 none RX5 kdC (d0 + 1) [(0, .ref 13)] 0 [] (I, J, RM B) none (q, J, RM B)
  unfold mPl_findStaying at h
  refine a_aload_n dX5_findStaying_0 rfl rfl ?_
  refine a_iconst dX5_findStaying_1 ic_0 ?_
  refine b_putI hK_5 kc_13 (i := 10) rfl fl_5_116 rfl rfl (h_NI _) dX5_findStaying_2 ?_
  obtain ⟨I1, eI1, h⟩ := h_letS h
  refine a_memI eI1 ?_
  refine a_iconst dX5_findStaying_5 ic_0 ?_
  refine a_istore_n (lv' := [(1, .int (0 : Int32)), (0, .ref 13)]) dX5_findStaying_6 rfl (by decide) rfl ?_
  refine a_sub (lv' := [(0, .ref 13), (1, .int (0 : Int32))]) [1, 0] rfl ?_
  exact sPl_findStaying_L7 (d0 + 1) (by omega) hF (0 : Int32) I1 J B _ h
/-! CoinLoops$Plans.makeRow([JII)V -/
theorem dX5_makeRow_0 : decode cX5_makeRow 0 = .ok (.iload_n 3, 1) := by decide +kernel
theorem dX5_makeRow_1 : decode cX5_makeRow 1 = .ok (.bipush 80, 2) := by decide +kernel
theorem dX5_makeRow_3 : decode cX5_makeRow 3 = .ok (.invokestatic 70, 3) := by decide +kernel
theorem dX5_makeRow_6 : decode cX5_makeRow 6 = .ok (.ifCond .ne 28, 3) := by decide +kernel
theorem dX5_makeRow_9 : decode cX5_makeRow 9 = .ok (.iload_n 2, 1) := by decide +kernel
theorem dX5_makeRow_10 : decode cX5_makeRow 10 = .ok (.aload_n 0, 1) := by decide +kernel
theorem dX5_makeRow_11 : decode cX5_makeRow 11 = .ok (.getfield 122, 3) := by decide +kernel
theorem dX5_makeRow_14 : decode cX5_makeRow 14 = .ok (.invokestatic 70, 3) := by decide +kernel
theorem dX5_makeRow_17 : decode cX5_makeRow 17 = .ok (.ifCond .ne 17, 3) := by decide +kernel
theorem dX5_makeRow_20 : decode cX5_makeRow 20 = .ok (.aload_n 0, 1) := by decide +kernel
theorem dX5_makeRow_21 : decode cX5_makeRow 21 = .ok (.getfield 122, 3) := by decide +kernel
theorem dX5_makeRow_24 : decode cX5_makeRow 24 = .ok (.iconst 1, 1) := by decide +kernel
theorem dX5_makeRow_25 : decode cX5_makeRow 25 = .ok (.iadd, 1) := by decide +kernel
theorem dX5_makeRow_26 : decode cX5_makeRow 26 = .ok (.aload_n 1, 1) := by decide +kernel
theorem dX5_makeRow_27 : decode cX5_makeRow 27 = .ok (.arraylength, 1) := by decide +kernel
theorem dX5_makeRow_28 : decode cX5_makeRow 28 = .ok (.invokestatic 70, 3) := by decide +kernel
theorem dX5_makeRow_31 : decode cX5_makeRow 31 = .ok (.ifCond .eq 4, 3) := by decide +kernel
theorem dX5_makeRow_34 : decode cX5_makeRow 34 = .ok (.return_, 1) := by decide +kernel
theorem dX5_makeRow_35 : decode cX5_makeRow 35 = .ok (.iconst 0, 1) := by decide +kernel
theorem dX5_makeRow_36 : decode cX5_makeRow 36 = .ok (.istore 4, 2) := by decide +kernel
theorem dX5_makeRow_38 : decode cX5_makeRow 38 = .ok (.iload 4, 2) := by decide +kernel
theorem dX5_makeRow_40 : decode cX5_makeRow 40 = .ok (.aload_n 1, 1) := by decide +kernel
theorem dX5_makeRow_41 : decode cX5_makeRow 41 = .ok (.arraylength, 1) := by decide +kernel
theorem dX5_makeRow_42 : decode cX5_makeRow 42 = .ok (.if_icmp .ge 14, 3) := by decide +kernel
theorem dX5_makeRow_45 : decode cX5_makeRow 45 = .ok (.aload_n 1, 1) := by decide +kernel
theorem dX5_makeRow_46 : decode cX5_makeRow 46 = .ok (.iload 4, 2) := by decide +kernel
theorem dX5_makeRow_48 : decode cX5_makeRow 48 = .ok (.lconst 0, 1) := by decide +kernel
theorem dX5_makeRow_49 : decode cX5_makeRow 49 = .ok (.lastore, 1) := by decide +kernel
theorem dX5_makeRow_50 : decode cX5_makeRow 50 = .ok (.iinc 4 1, 3) := by decide +kernel
theorem dX5_makeRow_53 : decode cX5_makeRow 53 = .ok (.goto (-15), 3) := by decide +kernel
theorem dX5_makeRow_56 : decode cX5_makeRow 56 = .ok (.aload_n 1, 1) := by decide +kernel
theorem dX5_makeRow_57 : decode cX5_makeRow 57 = .ok (.iload_n 2, 1) := by decide +kernel
theorem dX5_makeRow_58 : decode cX5_makeRow 58 = .ok (.ldc2_w 129, 3) := by decide +kernel
theorem dX5_makeRow_61 : decode cX5_makeRow 61 = .ok (.lastore, 1) := by decide +kernel
theorem dX5_makeRow_62 : decode cX5_makeRow 62 = .ok (.aload_n 1, 1) := by decide +kernel
theorem dX5_makeRow_63 : decode cX5_makeRow 63 = .ok (.aload_n 0, 1) := by decide +kernel
theorem dX5_makeRow_64 : decode cX5_makeRow 64 = .ok (.getfield 122, 3) := by decide +kernel
theorem dX5_makeRow_67 : decode cX5_makeRow 67 = .ok (.aload_n 0, 1) := by decide +kernel
theorem dX5_makeRow_68 : decode cX5_makeRow 68 = .ok (.getfield 36, 3) := by decide +kernel
theorem dX5_makeRow_71 : decode cX5_makeRow 71 = .ok (.getfield 131, 3) := by decide +kernel
theorem dX5_makeRow_74 : decode cX5_makeRow 74 = .ok (.iload_n 3, 1) := by decide +kernel
theorem dX5_makeRow_75 : decode cX5_makeRow 75 = .ok (.iaload, 1) := by decide +kernel
theorem dX5_makeRow_76 : decode cX5_makeRow 76 = .ok (.i2l, 1) := by decide +kernel
theorem dX5_makeRow_77 : decode cX5_makeRow 77 = .ok (.lastore, 1) := by decide +kernel
theorem dX5_makeRow_78 : decode cX5_makeRow 78 = .ok (.aload_n 1, 1) := by decide +kernel
theorem dX5_makeRow_79 : decode cX5_makeRow 79 = .ok (.aload_n 0, 1) := by decide +kernel
theorem dX5_makeRow_80 : decode cX5_makeRow 80 = .ok (.getfield 122, 3) := by decide +kernel
theorem dX5_makeRow_83 : decode cX5_makeRow 83 = .ok (.iconst 1, 1) := by decide +kernel
theorem dX5_makeRow_84 : decode cX5_makeRow 84 = .ok (.iadd, 1) := by decide +kernel
theorem dX5_makeRow_85 : decode cX5_makeRow 85 = .ok (.aload_n 0, 1) := by decide +kernel
theorem dX5_makeRow_86 : decode cX5_makeRow 86 = .ok (.getfield 36, 3) := by decide +kernel
theorem dX5_makeRow_89 : decode cX5_makeRow 89 = .ok (.getfield 110, 3) := by decide +kernel
theorem dX5_makeRow_92 : decode cX5_makeRow 92 = .ok (.iload_n 3, 1) := by decide +kernel
theorem dX5_makeRow_93 : decode cX5_makeRow 93 = .ok (.iaload, 1) := by decide +kernel
theorem dX5_makeRow_94 : decode cX5_makeRow 94 = .ok (.i2l, 1) := by decide +kernel
theorem dX5_makeRow_95 : decode cX5_makeRow 95 = .ok (.lastore, 1) := by decide +kernel
theorem dX5_makeRow_96 : decode cX5_makeRow 96 = .ok (.iconst 0, 1) := by decide +kernel
theorem dX5_makeRow_97 : decode cX5_makeRow 97 = .ok (.istore 4, 2) := by decide +kernel
theorem dX5_makeRow_99 : decode cX5_makeRow 99 = .ok (.iload 4, 2) := by decide +kernel
theorem dX5_makeRow_101 : decode cX5_makeRow 101 = .ok (.aload_n 0, 1) := by decide +kernel
theorem dX5_makeRow_102 : decode cX5_makeRow 102 = .ok (.getfield 36, 3) := by decide +kernel
theorem dX5_makeRow_105 : decode cX5_makeRow 105 = .ok (.getfield 63, 3) := by decide +kernel
theorem dX5_makeRow_108 : decode cX5_makeRow 108 = .ok (.if_icmp .ge 82, 3) := by decide +kernel
theorem dX5_makeRow_111 : decode cX5_makeRow 111 = .ok (.aload_n 0, 1) := by decide +kernel
theorem dX5_makeRow_112 : decode cX5_makeRow 112 = .ok (.getfield 36, 3) := by decide +kernel
theorem dX5_makeRow_115 : decode cX5_makeRow 115 = .ok (.iload_n 3, 1) := by decide +kernel
theorem dX5_makeRow_116 : decode cX5_makeRow 116 = .ok (.iload 4, 2) := by decide +kernel
theorem dX5_makeRow_118 : decode cX5_makeRow 118 = .ok (.invokevirtual 113, 3) := by decide +kernel
theorem dX5_makeRow_121 : decode cX5_makeRow 121 = .ok (.istore 5, 2) := by decide +kernel
theorem dX5_makeRow_123 : decode cX5_makeRow 123 = .ok (.aload_n 0, 1) := by decide +kernel
theorem dX5_makeRow_124 : decode cX5_makeRow 124 = .ok (.getfield 36, 3) := by decide +kernel
theorem dX5_makeRow_127 : decode cX5_makeRow 127 = .ok (.iload 4, 2) := by decide +kernel
theorem dX5_makeRow_129 : decode cX5_makeRow 129 = .ok (.invokevirtual 88, 3) := by decide +kernel
theorem dX5_makeRow_132 : decode cX5_makeRow 132 = .ok (.ifCond .ne 20, 3) := by decide +kernel
theorem dX5_makeRow_135 : decode cX5_makeRow 135 = .ok (.aload_n 1, 1) := by decide +kernel
theorem dX5_makeRow_136 : decode cX5_makeRow 136 = .ok (.aload_n 0, 1) := by decide +kernel
theorem dX5_makeRow_137 : decode cX5_makeRow 137 = .ok (.getfield 122, 3) := by decide +kernel
theorem dX5_makeRow_140 : decode cX5_makeRow 140 = .ok (.iconst 1, 1) := by decide +kernel
theorem dX5_makeRow_141 : decode cX5_makeRow 141 = .ok (.iadd, 1) := by decide +kernel
theorem dX5_makeRow_142 : decode cX5_makeRow 142 = .ok (.dup2, 1) := by decide +kernel
theorem dX5_makeRow_143 : decode cX5_makeRow 143 = .ok (.laload, 1) := by decide +kernel
theorem dX5_makeRow_144 : decode cX5_makeRow 144 = .ok (.iload 5, 2) := by decide +kernel
theorem dX5_makeRow_146 : decode cX5_makeRow 146 = .ok (.i2l, 1) := by decide +kernel
theorem dX5_makeRow_147 : decode cX5_makeRow 147 = .ok (.ladd, 1) := by decide +kernel
theorem dX5_makeRow_148 : decode cX5_makeRow 148 = .ok (.lastore, 1) := by decide +kernel
theorem dX5_makeRow_149 : decode cX5_makeRow 149 = .ok (.goto 35, 3) := by decide +kernel
theorem dX5_makeRow_152 : decode cX5_makeRow 152 = .ok (.aload_n 0, 1) := by decide +kernel
theorem dX5_makeRow_153 : decode cX5_makeRow 153 = .ok (.getfield 28, 3) := by decide +kernel
theorem dX5_makeRow_156 : decode cX5_makeRow 156 = .ok (.iload 4, 2) := by decide +kernel
theorem dX5_makeRow_158 : decode cX5_makeRow 158 = .ok (.iaload, 1) := by decide +kernel
theorem dX5_makeRow_159 : decode cX5_makeRow 159 = .ok (.aload_n 0, 1) := by decide +kernel
theorem dX5_makeRow_160 : decode cX5_makeRow 160 = .ok (.getfield 122, 3) := by decide +kernel
theorem dX5_makeRow_163 : decode cX5_makeRow 163 = .ok (.invokestatic 70, 3) := by decide +kernel
theorem dX5_makeRow_166 : decode cX5_makeRow 166 = .ok (.ifCond .ne 18, 3) := by decide +kernel
theorem dX5_makeRow_169 : decode cX5_makeRow 169 = .ok (.aload_n 1, 1) := by decide +kernel
theorem dX5_makeRow_170 : decode cX5_makeRow 170 = .ok (.aload_n 0, 1) := by decide +kernel
theorem dX5_makeRow_171 : decode cX5_makeRow 171 = .ok (.getfield 28, 3) := by decide +kernel
theorem dX5_makeRow_174 : decode cX5_makeRow 174 = .ok (.iload 4, 2) := by decide +kernel
theorem dX5_makeRow_176 : decode cX5_makeRow 176 = .ok (.iaload, 1) := by decide +kernel
theorem dX5_makeRow_177 : decode cX5_makeRow 177 = .ok (.dup2, 1) := by decide +kernel
theorem dX5_makeRow_178 : decode cX5_makeRow 178 = .ok (.laload, 1) := by decide +kernel
theorem dX5_makeRow_179 : decode cX5_makeRow 179 = .ok (.iload 5, 2) := by decide +kernel
theorem dX5_makeRow_181 : decode cX5_makeRow 181 = .ok (.i2l, 1) := by decide +kernel
theorem dX5_makeRow_182 : decode cX5_makeRow 182 = .ok (.lsub, 1) := by decide +kernel
theorem dX5_makeRow_183 : decode cX5_makeRow 183 = .ok (.lastore, 1) := by decide +kernel
theorem dX5_makeRow_184 : decode cX5_makeRow 184 = .ok (.iinc 4 1, 3) := by decide +kernel
theorem dX5_makeRow_187 : decode cX5_makeRow 187 = .ok (.goto (-88), 3) := by decide +kernel
theorem dX5_makeRow_190 : decode cX5_makeRow 190 = .ok (.return_, 1) := by decide +kernel
def mPl_makeRow_B99 (k99 : Nat → Int32 → Int32 → hI → hJ → Option (hJ)) (a1 : Nat) (v3 : Int32) (v4 : Int32) (I : hI) (J : hJ) : Option (hJ) :=
  if (I 7 5) ≤ v4 then
    some J
  else
    ((mRo_quarters v3 v4 I).bind fun q1 =>
    if (mRo_isIn v4 I) = 0 then
      (h_g (h_in ((I 13 11) + (1 : Int32)) 12) <|
      h_g (h_in ((I 13 11) + (1 : Int32)) 12) <|
      h_let (h_u J a1 ((I 13 11) + (1 : Int32)).toNatClampNeg ((J a1 ((I 13 11) + (1 : Int32)).toNatClampNeg) + q1.toInt64)) fun J4 =>
      k99 a1 v3 (v4 + (1 : Int32)) I J4)
    else
      (h_g (h_in v4 10) <|
      if (mC_isOutside (I 19 v4.toNatClampNeg) (I 13 11)) = 0 then
        (h_g (h_in v4 10) <|
        h_g (h_in (I 19 v4.toNatClampNeg) 12) <|
        h_g (h_in (I 19 v4.toNatClampNeg) 12) <|
        h_let (h_u J a1 (I 19 v4.toNatClampNeg).toNatClampNeg ((J a1 (I 19 v4.toNatClampNeg).toNatClampNeg) - q1.toInt64)) fun J6 =>
        k99 a1 v3 (v4 + (1 : Int32)) I J6)
      else
        k99 a1 v3 (v4 + (1 : Int32)) I J))
set_option maxHeartbeats 4000000 in
theorem sPl_makeRow_B99 (d : Nat) (hd : 0 + 1 ≤ d) (k99 : Nat → Int32 → Int32 → hI → hJ → Option (hJ)) (hk99 : ∀ (a1 : Nat) (ha1 : kdC[a1]? = some (1, 12)) (v3 : Int32) (v4 : Int32) (I : hI) (J : hJ) (B : Bool × Bool) (q : hJ), k99 a1 v3 v4 I J = some q → AW hFT cX5_makeRow 6 none RX5 kdC d [(0, .ref 13), (1, .ref a1), (3, .int v3), (4, .int v4)] 99 [] (I, J, RM B) none (I, q, RM B)) (a1 : Nat) (ha1 : kdC[a1]? = some (1, 12)) (v3 : Int32) (v4 : Int32) (I : hI) (J : hJ) (B : Bool × Bool) (q : hJ) (h : mPl_makeRow_B99 k99 a1 v3 v4 I J = some q) : AW hFT cX5_makeRow 6 none RX5 kdC d [(0, .ref 13), (1, .ref a1), (3, .int v3), (4, .int v4)] 99 [] (I, J, RM B) none (I, q, RM B) := by
  obtain ⟨d0, rfl, hd0⟩ := h_mono hd
  unfold mPl_makeRow_B99 at h
  refine a_iload dX5_makeRow_99 rfl ?_
  refine a_aload_n dX5_makeRow_101 rfl rfl ?_
  refine b_getR hK_5 kc_13 (i := 0) rfl fl_5_36 rfl (rm_13_0 B) dX5_makeRow_102 ?_
  refine b_getI hK_7 kc_7 (i := 5) rfl fl_5_63 rfl dX5_makeRow_105 ?_
  refine a_icmp_ge (tgt := 190) dX5_makeRow_108 (by decide) (fun c => ?_) (fun c => ?_)
  · replace h := h_iteT c h
    cases h
    exact a_vret dX5_makeRow_190
  · replace h := h_iteF c h
    refine a_aload_n dX5_makeRow_111 rfl rfl ?_
    refine b_getR hK_5 kc_13 (i := 0) rfl fl_5_36 rfl (rm_13_0 B) dX5_makeRow_112 ?_
    refine a_iload_n dX5_makeRow_115 rfl rfl ?_
    refine a_iload dX5_makeRow_116 rfl ?_
    obtain ⟨q1, cq1, h⟩ := h_bindS h
    refine a_callV1 [] yy_X7_quarters ml_5_113 kc_7 rfl (sRo_quarters _ (by omega) v3 v4 I J B q1 cq1) rfl rfl (Nat.le_of_ble_eq_true rfl) dX5_makeRow_118 ?_
    refine a_istore (lv' := [(5, .int q1), (0, .ref 13), (1, .ref a1), (3, .int v3), (4, .int v4)]) dX5_makeRow_121 (by decide) rfl ?_
    refine a_aload_n dX5_makeRow_123 rfl rfl ?_
    refine b_getR hK_5 kc_13 (i := 0) rfl fl_5_36 rfl (rm_13_0 B) dX5_makeRow_124 ?_
    refine a_iload dX5_makeRow_127 rfl ?_
    refine a_callV1 [] yy_X7_isIn ml_5_88 kc_7 rfl (sRo_isIn _ (by omega) v4 I J B _ rfl) rfl rfl (Nat.le_of_ble_eq_true rfl) dX5_makeRow_129 ?_
    refine a_if_ne (tgt := 152) dX5_makeRow_132 (by decide) (fun c => ?_) (fun c => ?_)
    · replace h := h_iteF c h
      refine a_aload_n dX5_makeRow_152 rfl rfl ?_
      refine b_getR hK_5 kc_13 (i := 7) rfl fl_5_28 rfl (rm_13_7 B) dX5_makeRow_153 ?_
      refine a_iload dX5_makeRow_156 rfl ?_
      obtain ⟨g2, h⟩ := h_gS h
      refine b_iaload kc_19 (h_inV g2) dX5_makeRow_158 ?_
      refine a_aload_n dX5_makeRow_159 rfl rfl ?_
      refine b_getI hK_5 kc_13 (i := 11) rfl fl_5_122 rfl dX5_makeRow_160 ?_
      refine a_callSN1 [] yy_X10_isOutside ml_5_70 (sC_isOutside _ (by omega) (I 19 v4.toNatClampNeg) (I 13 11) I J B _ rfl) rfl rfl (Nat.le_of_ble_eq_true rfl) dX5_makeRow_163 ?_
      refine a_if_ne (tgt := 184) dX5_makeRow_166 (by decide) (fun c => ?_) (fun c => ?_)
      · replace h := h_iteF c h
        refine b_iinc (lv' := [(4, .int (v4 + (1 : Int32))), (5, .int q1), (0, .ref 13), (1, .ref a1), (3, .int v3)]) dX5_makeRow_184 rfl ic_1 (by decide) rfl ?_
        refine a_goto (tgt := 99) dX5_makeRow_187 (by decide) ?_
        refine a_sub (lv' := [(0, .ref 13), (1, .ref a1), (3, .int v3), (4, .int (v4 + (1 : Int32)))]) [2, 3, 4, 0] rfl ?_
        exact hk99 a1 ha1 v3 (v4 + (1 : Int32)) I J B _ h
      · replace h := h_iteT c h
        refine a_aload_n dX5_makeRow_169 rfl rfl ?_
        refine a_aload_n dX5_makeRow_170 rfl rfl ?_
        refine b_getR hK_5 kc_13 (i := 7) rfl fl_5_28 rfl (rm_13_7 B) dX5_makeRow_171 ?_
        refine a_iload dX5_makeRow_174 rfl ?_
        obtain ⟨g3, h⟩ := h_gS h
        refine b_iaload kc_19 (h_inV g3) dX5_makeRow_176 ?_
        refine a_dup2_11 dX5_makeRow_177 rfl rfl ?_
        obtain ⟨g4, h⟩ := h_gS h
        refine b_laload ha1 (h_inV g4) dX5_makeRow_178 ?_
        refine a_iload dX5_makeRow_179 rfl ?_
        refine a_i2l dX5_makeRow_181 ?_
        refine a_lsub dX5_makeRow_182 ?_
        obtain ⟨g5, h⟩ := h_gS h
        refine b_lastore ha1 (h_inV g5) dX5_makeRow_183 ?_
        obtain ⟨J6, eJ6, h⟩ := h_letS h
        refine a_memJ eJ6 ?_
        refine b_iinc (lv' := [(4, .int (v4 + (1 : Int32))), (5, .int q1), (0, .ref 13), (1, .ref a1), (3, .int v3)]) dX5_makeRow_184 rfl ic_1 (by decide) rfl ?_
        refine a_goto (tgt := 99) dX5_makeRow_187 (by decide) ?_
        refine a_sub (lv' := [(0, .ref 13), (1, .ref a1), (3, .int v3), (4, .int (v4 + (1 : Int32)))]) [2, 3, 4, 0] rfl ?_
        exact hk99 a1 ha1 v3 (v4 + (1 : Int32)) I J6 B _ h
    · replace h := h_iteT c h
      refine a_aload_n dX5_makeRow_135 rfl rfl ?_
      refine a_aload_n dX5_makeRow_136 rfl rfl ?_
      refine b_getI hK_5 kc_13 (i := 11) rfl fl_5_122 rfl dX5_makeRow_137 ?_
      refine a_iconst dX5_makeRow_140 ic_1 ?_
      refine a_iadd dX5_makeRow_141 ?_
      refine a_dup2_11 dX5_makeRow_142 rfl rfl ?_
      obtain ⟨g2, h⟩ := h_gS h
      refine b_laload ha1 (h_inV g2) dX5_makeRow_143 ?_
      refine a_iload dX5_makeRow_144 rfl ?_
      refine a_i2l dX5_makeRow_146 ?_
      refine a_ladd dX5_makeRow_147 ?_
      obtain ⟨g3, h⟩ := h_gS h
      refine b_lastore ha1 (h_inV g3) dX5_makeRow_148 ?_
      obtain ⟨J4, eJ4, h⟩ := h_letS h
      refine a_memJ eJ4 ?_
      refine a_goto (tgt := 184) dX5_makeRow_149 (by decide) ?_
      refine b_iinc (lv' := [(4, .int (v4 + (1 : Int32))), (5, .int q1), (0, .ref 13), (1, .ref a1), (3, .int v3)]) dX5_makeRow_184 rfl ic_1 (by decide) rfl ?_
      refine a_goto (tgt := 99) dX5_makeRow_187 (by decide) ?_
      refine a_sub (lv' := [(0, .ref 13), (1, .ref a1), (3, .int v3), (4, .int (v4 + (1 : Int32)))]) [2, 3, 4, 0] rfl ?_
      exact hk99 a1 ha1 v3 (v4 + (1 : Int32)) I J4 B _ h
def mPl_makeRow_L99  : Nat → Nat → Int32 → Int32 → hI → hJ → Option (hJ)
  | 0 => fun _ _ _ _ _ => none
  | n + 1 => mPl_makeRow_B99 (mPl_makeRow_L99 n)
theorem sPl_makeRow_L99 (d : Nat) (hd : 0 + 1 ≤ d) : ∀ (n : Nat) (a1 : Nat) (ha1 : kdC[a1]? = some (1, 12)) (v3 : Int32) (v4 : Int32) (I : hI) (J : hJ) (B : Bool × Bool) (q : hJ) (h : mPl_makeRow_L99 n a1 v3 v4 I J = some q), AW hFT cX5_makeRow 6 none RX5 kdC d [(0, .ref 13), (1, .ref a1), (3, .int v3), (4, .int v4)] 99 [] (I, J, RM B) none (I, q, RM B)
  | 0, _, _, _, _, _, _, _, q, h => by cases h
  | n + 1, a1, ha1, v3, v4, I, J, B, q, h => sPl_makeRow_B99 d hd (mPl_makeRow_L99 n) (sPl_makeRow_L99 d hd n) a1 ha1 v3 v4 I J B q h
def mPl_makeRow_B38 (k38 : Nat → Int32 → Int32 → Int32 → hI → hJ → Option (hJ)) (a1 : Nat) (v2 : Int32) (v3 : Int32) (v4 : Int32) (I : hI) (J : hJ) : Option (hJ) :=
  if (12 : Int32) ≤ v4 then
    (h_g (h_in v2 12) <|
    h_let (h_u J a1 v2.toNatClampNeg (4 : Int64)) fun J2 =>
    h_g (h_in v3 80) <|
    h_g (h_in (I 13 11) 12) <|
    h_let (h_u J2 a1 (I 13 11).toNatClampNeg ((I 10 v3.toNatClampNeg).toInt64)) fun J5 =>
    h_g (h_in v3 80) <|
    h_g (h_in ((I 13 11) + (1 : Int32)) 12) <|
    h_let (h_u J5 a1 ((I 13 11) + (1 : Int32)).toNatClampNeg ((I 11 v3.toNatClampNeg).toInt64)) fun J8 =>
    mPl_makeRow_L99 hF a1 v3 (0 : Int32) I J8)
  else
    (h_g (h_in v4 12) <|
    h_let (h_u J a1 v4.toNatClampNeg (0 : Int64)) fun J2 =>
    k38 a1 v2 v3 (v4 + (1 : Int32)) I J2)
set_option maxHeartbeats 4000000 in
theorem sPl_makeRow_B38 (d : Nat) (hd : 0 + 1 ≤ d) (k38 : Nat → Int32 → Int32 → Int32 → hI → hJ → Option (hJ)) (hk38 : ∀ (a1 : Nat) (ha1 : kdC[a1]? = some (1, 12)) (v2 : Int32) (v3 : Int32) (v4 : Int32) (I : hI) (J : hJ) (B : Bool × Bool) (q : hJ), k38 a1 v2 v3 v4 I J = some q → AW hFT cX5_makeRow 6 none RX5 kdC d [(0, .ref 13), (1, .ref a1), (2, .int v2), (3, .int v3), (4, .int v4)] 38 [] (I, J, RM B) none (I, q, RM B)) (a1 : Nat) (ha1 : kdC[a1]? = some (1, 12)) (v2 : Int32) (v3 : Int32) (v4 : Int32) (I : hI) (J : hJ) (B : Bool × Bool) (q : hJ) (h : mPl_makeRow_B38 k38 a1 v2 v3 v4 I J = some q) : AW hFT cX5_makeRow 6 none RX5 kdC d [(0, .ref 13), (1, .ref a1), (2, .int v2), (3, .int v3), (4, .int v4)] 38 [] (I, J, RM B) none (I, q, RM B) := by
  obtain ⟨d0, rfl, hd0⟩ := h_mono hd
  unfold mPl_makeRow_B38 at h
  refine a_iload dX5_makeRow_38 rfl ?_
  refine a_aload_n dX5_makeRow_40 rfl rfl ?_
  refine a_alen1 ha1 (v := 12) (by decide) dX5_makeRow_41 ?_
  refine a_icmp_ge (tgt := 56) dX5_makeRow_42 (by decide) (fun c => ?_) (fun c => ?_)
  · replace h := h_iteT c h
    refine a_aload_n dX5_makeRow_56 rfl rfl ?_
    refine a_iload_n dX5_makeRow_57 rfl rfl ?_
    refine a_ldc2_w cn_5_129 dX5_makeRow_58 ?_
    obtain ⟨g1, h⟩ := h_gS h
    refine b_lastore ha1 (h_inV g1) dX5_makeRow_61 ?_
    obtain ⟨J2, eJ2, h⟩ := h_letS h
    refine a_memJ eJ2 ?_
    refine a_aload_n dX5_makeRow_62 rfl rfl ?_
    refine a_aload_n dX5_makeRow_63 rfl rfl ?_
    refine b_getI hK_5 kc_13 (i := 11) rfl fl_5_122 rfl dX5_makeRow_64 ?_
    refine a_aload_n dX5_makeRow_67 rfl rfl ?_
    refine b_getR hK_5 kc_13 (i := 0) rfl fl_5_36 rfl (rm_13_0 B) dX5_makeRow_68 ?_
    refine b_getR hK_7 kc_7 (i := 2) rfl fl_5_131 rfl (rm_7_2 B) dX5_makeRow_71 ?_
    refine a_iload_n dX5_makeRow_74 rfl rfl ?_
    obtain ⟨g3, h⟩ := h_gS h
    refine b_iaload kc_10 (h_inV g3) dX5_makeRow_75 ?_
    refine a_i2l dX5_makeRow_76 ?_
    obtain ⟨g4, h⟩ := h_gS h
    refine b_lastore ha1 (h_inV g4) dX5_makeRow_77 ?_
    obtain ⟨J5, eJ5, h⟩ := h_letS h
    refine a_memJ eJ5 ?_
    refine a_aload_n dX5_makeRow_78 rfl rfl ?_
    refine a_aload_n dX5_makeRow_79 rfl rfl ?_
    refine b_getI hK_5 kc_13 (i := 11) rfl fl_5_122 rfl dX5_makeRow_80 ?_
    refine a_iconst dX5_makeRow_83 ic_1 ?_
    refine a_iadd dX5_makeRow_84 ?_
    refine a_aload_n dX5_makeRow_85 rfl rfl ?_
    refine b_getR hK_5 kc_13 (i := 0) rfl fl_5_36 rfl (rm_13_0 B) dX5_makeRow_86 ?_
    refine b_getR hK_7 kc_7 (i := 3) rfl fl_5_110 rfl (rm_7_3 B) dX5_makeRow_89 ?_
    refine a_iload_n dX5_makeRow_92 rfl rfl ?_
    obtain ⟨g6, h⟩ := h_gS h
    refine b_iaload kc_11 (h_inV g6) dX5_makeRow_93 ?_
    refine a_i2l dX5_makeRow_94 ?_
    obtain ⟨g7, h⟩ := h_gS h
    refine b_lastore ha1 (h_inV g7) dX5_makeRow_95 ?_
    obtain ⟨J8, eJ8, h⟩ := h_letS h
    refine a_memJ eJ8 ?_
    refine a_iconst dX5_makeRow_96 ic_0 ?_
    refine a_istore (lv' := [(4, .int (0 : Int32)), (0, .ref 13), (1, .ref a1), (2, .int v2), (3, .int v3)]) dX5_makeRow_97 (by decide) rfl ?_
    refine a_sub (lv' := [(0, .ref 13), (1, .ref a1), (3, .int v3), (4, .int (0 : Int32))]) [1, 2, 4, 0] rfl ?_
    exact sPl_makeRow_L99 (d0 + 1) (by omega) hF a1 ha1 v3 (0 : Int32) I J8 B _ h
  · replace h := h_iteF c h
    refine a_aload_n dX5_makeRow_45 rfl rfl ?_
    refine a_iload dX5_makeRow_46 rfl ?_
    refine a_lconst dX5_makeRow_48 lc_0 ?_
    obtain ⟨g1, h⟩ := h_gS h
    refine b_lastore ha1 (h_inV g1) dX5_makeRow_49 ?_
    obtain ⟨J2, eJ2, h⟩ := h_letS h
    refine a_memJ eJ2 ?_
    refine b_iinc (lv' := [(4, .int (v4 + (1 : Int32))), (0, .ref 13), (1, .ref a1), (2, .int v2), (3, .int v3)]) dX5_makeRow_50 rfl ic_1 (by decide) rfl ?_
    refine a_goto (tgt := 38) dX5_makeRow_53 (by decide) ?_
    refine a_sub (lv' := [(0, .ref 13), (1, .ref a1), (2, .int v2), (3, .int v3), (4, .int (v4 + (1 : Int32)))]) [1, 2, 3, 4, 0] rfl ?_
    exact hk38 a1 ha1 v2 v3 (v4 + (1 : Int32)) I J2 B _ h
def mPl_makeRow_L38  : Nat → Nat → Int32 → Int32 → Int32 → hI → hJ → Option (hJ)
  | 0 => fun _ _ _ _ _ _ => none
  | n + 1 => mPl_makeRow_B38 (mPl_makeRow_L38 n)
theorem sPl_makeRow_L38 (d : Nat) (hd : 0 + 1 ≤ d) : ∀ (n : Nat) (a1 : Nat) (ha1 : kdC[a1]? = some (1, 12)) (v2 : Int32) (v3 : Int32) (v4 : Int32) (I : hI) (J : hJ) (B : Bool × Bool) (q : hJ) (h : mPl_makeRow_L38 n a1 v2 v3 v4 I J = some q), AW hFT cX5_makeRow 6 none RX5 kdC d [(0, .ref 13), (1, .ref a1), (2, .int v2), (3, .int v3), (4, .int v4)] 38 [] (I, J, RM B) none (I, q, RM B)
  | 0, _, _, _, _, _, _, _, _, q, h => by cases h
  | n + 1, a1, ha1, v2, v3, v4, I, J, B, q, h => sPl_makeRow_B38 d hd (mPl_makeRow_L38 n) (sPl_makeRow_L38 d hd n) a1 ha1 v2 v3 v4 I J B q h
def mPl_makeRow  (a1 : Nat) (v2 : Int32) (v3 : Int32) (I : hI) (J : hJ) : Option (hJ) :=
  if (mC_isOutside v3 (80 : Int32)) = 0 then
    (if (mC_isOutside v2 (I 13 11)) = 0 then
      (if (mC_isOutside ((I 13 11) + (1 : Int32)) (12 : Int32)) = 0 then
        mPl_makeRow_L38 hF a1 v2 v3 (0 : Int32) I J
      else
        some J)
    else
      some J)
  else
    some J
set_option maxHeartbeats 4000000 in
theorem sPl_makeRow (d : Nat) (hd : 0 + 1 ≤ d) (a1 : Nat) (ha1 : kdC[a1]? = some (1, 12)) (v2 : Int32) (v3 : Int32) (I : hI) (J : hJ) (B : Bool × Bool) (q : hJ) (h : mPl_makeRow a1 v2 v3 I J = some q) : HMet hFT yX5_makeRow cX5_makeRow 6 none kdC d [.ref 13, .ref a1, .int v2, .int v3] (I, J, RM B) none (I, q, RM B) := by
  obtain ⟨d0, rfl, hd0⟩ := h_mono hd
  refine HMet.of (by decide) (Nat.le_of_ble_eq_true rfl) ?_
  show AW hFT cX5_makeRow 6 none RX5 kdC (d0 + 1) [(0, .ref 13), (1, .ref a1), (2, .int v2), (3, .int v3)] 0 [] (I, J, RM B) none (I, q, RM B)
  unfold mPl_makeRow at h
  refine a_iload_n dX5_makeRow_0 rfl rfl ?_
  refine a_bipush dX5_makeRow_1 bp_80 ?_
  refine a_callSN1 [] yy_X10_isOutside ml_5_70 (sC_isOutside _ (by omega) v3 (80 : Int32) I J B _ rfl) rfl rfl (Nat.le_of_ble_eq_true rfl) dX5_makeRow_3 ?_
  refine a_if_ne (tgt := 34) dX5_makeRow_6 (by decide) (fun c => ?_) (fun c => ?_)
  · replace h := h_iteF c h
    cases h
    exact a_vret dX5_makeRow_34
  · replace h := h_iteT c h
    refine a_iload_n dX5_makeRow_9 rfl rfl ?_
    refine a_aload_n dX5_makeRow_10 rfl rfl ?_
    refine b_getI hK_5 kc_13 (i := 11) rfl fl_5_122 rfl dX5_makeRow_11 ?_
    refine a_callSN1 [] yy_X10_isOutside ml_5_70 (sC_isOutside _ (by omega) v2 (I 13 11) I J B _ rfl) rfl rfl (Nat.le_of_ble_eq_true rfl) dX5_makeRow_14 ?_
    refine a_if_ne (tgt := 34) dX5_makeRow_17 (by decide) (fun c => ?_) (fun c => ?_)
    · replace h := h_iteF c h
      cases h
      exact a_vret dX5_makeRow_34
    · replace h := h_iteT c h
      refine a_aload_n dX5_makeRow_20 rfl rfl ?_
      refine b_getI hK_5 kc_13 (i := 11) rfl fl_5_122 rfl dX5_makeRow_21 ?_
      refine a_iconst dX5_makeRow_24 ic_1 ?_
      refine a_iadd dX5_makeRow_25 ?_
      refine a_aload_n dX5_makeRow_26 rfl rfl ?_
      refine a_alen1 ha1 (v := 12) (by decide) dX5_makeRow_27 ?_
      refine a_callSN1 [] yy_X10_isOutside ml_5_70 (sC_isOutside _ (by omega) ((I 13 11) + (1 : Int32)) (12 : Int32) I J B _ rfl) rfl rfl (Nat.le_of_ble_eq_true rfl) dX5_makeRow_28 ?_
      refine a_if_eq (tgt := 35) dX5_makeRow_31 (by decide) (fun c => ?_) (fun c => ?_)
      · replace h := h_iteT c h
        refine a_iconst dX5_makeRow_35 ic_0 ?_
        refine a_istore (lv' := [(4, .int (0 : Int32)), (0, .ref 13), (1, .ref a1), (2, .int v2), (3, .int v3)]) dX5_makeRow_36 (by decide) rfl ?_
        refine a_sub (lv' := [(0, .ref 13), (1, .ref a1), (2, .int v2), (3, .int v3), (4, .int (0 : Int32))]) [1, 2, 3, 4, 0] rfl ?_
        exact sPl_makeRow_L38 (d0 + 1) (by omega) hF a1 ha1 v2 v3 (0 : Int32) I J B _ h
      · replace h := h_iteF c h
        cases h
        exact a_vret dX5_makeRow_34
