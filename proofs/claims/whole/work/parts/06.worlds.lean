/-! The two worlds: the class's cells and the reference's; what the tables say that the walk needs. -/
abbrev hI : Type := Nat → Nat → Int32
abbrev hJ : Type := Nat → Nat → Int64
def hFT : Nat → List Nat
  | 0 => [2, 2, 2, 2, 2, 0]
  | 1 => [2, 0, 0, 2, 0, 0, 2, 2, 1, 0, 0, 2, 2, 2, 2]
  | 2 => [2, 2, 2, 2, 2, 2, 2, 0]
  | 3 => [2, 2, 2]
  | 4 => [2, 2, 2, 0, 0, 0, 0, 0, 0, 0, 0]
  | 5 => [2, 0, 2, 2, 2, 2, 2, 2, 2, 0, 0, 0]
  | 6 => [2, 0, 2, 2, 2, 0, 0, 0, 0, 0, 0, 0]
  | 7 => [2, 2, 2, 2, 2, 0, 0, 0, 0, 0]
  | 8 => [0, 0, 0, 0, 0, 0, 0, 0]
  | 9 => [0, 0, 0, 0, 0, 0, 0]
  | 10 => [2, 2, 2, 2, 2, 2, 2, 2, 2, 2, 2, 0, 0, 0, 0]
  | 11 => [0, 2, 0, 0, 0, 0, 0, 0, 2, 2, 2, 0, 2, 2, 2, 2, 0, 2, 2, 2, 2, 2, 2, 2, 0, 0, 0, 0, 0, 0, 0, 0, 2, 2, 2, 2, 0, 0, 0, 0, 0, 0, 0, 0, 0, 0, 0, 0, 2, 2, 2, 2, 2, 0, 0, 0, 0, 0, 0, 0, 0, 0, 2, 2, 2, 2, 2, 0, 2, 2, 2, 2, 2, 2, 2, 2, 2, 2, 0, 2, 2, 2, 2, 2, 2, 2, 2, 2, 0, 1, 1, 1, 1, 1, 1, 1, 1]
  | _ => []
def kdC : List (Nat × Nat) := [(15, 0), (11, 0), (0, 500), (0, 501), (0, 501), (0, 501), (14, 0), (12, 0), (0, 10), (0, 80), (0, 80), (0, 80), (0, 800), (10, 0), (1, 40), (1, 40), (0, 40), (0, 10), (0, 10), (0, 10), (4, 10), (1, 12), (1, 12), (1, 12), (1, 12), (1, 12), (1, 12), (1, 12), (1, 12), (1, 12), (1, 12), (8, 0), (4, 4), (1, 210), (1, 210), (1, 210), (1, 210), (0, 4), (6, 0), (4, 4), (1, 92), (1, 92), (1, 92), (1, 92), (1, 3), (1, 3), (1, 2), (1, 2), (1, 4), (4, 10), (1, 4), (1, 4), (1, 4), (1, 4), (1, 4), (1, 4), (1, 4), (1, 4), (1, 4), (1, 4), (0, 3), (9, 0), (5, 0), (0, 166), (0, 166), (0, 166), (0, 166), (2, 166), (3, 48), (0, 24), (13, 0), (13, 0), (13, 0), (13, 0), (13, 0), (13, 0), (13, 0), (13, 0), (13, 0), (13, 0), (13, 0), (13, 0), (13, 0), (13, 0), (13, 0), (13, 0), (13, 0), (13, 0), (13, 0), (13, 0), (13, 0), (13, 0), (13, 0), (13, 0), (13, 0), (13, 0), (13, 0), (13, 0), (13, 0), (13, 0), (13, 0), (13, 0), (13, 0), (13, 0), (13, 0), (13, 0), (13, 0), (13, 0), (13, 0), (13, 0), (13, 0), (13, 0), (13, 0), (13, 0), (13, 0), (13, 0), (13, 0), (13, 0), (9, 0), (5, 0), (0, 166), (0, 166), (0, 166), (0, 166), (2, 166), (3, 48), (0, 24), (13, 0), (13, 0), (13, 0), (13, 0), (13, 0), (13, 0), (13, 0), (13, 0), (13, 0), (13, 0), (13, 0), (13, 0), (13, 0), (13, 0), (13, 0), (13, 0), (13, 0), (13, 0), (13, 0), (13, 0), (13, 0), (13, 0), (13, 0), (13, 0), (13, 0), (13, 0), (13, 0), (13, 0), (13, 0), (13, 0), (13, 0), (13, 0), (13, 0), (13, 0), (13, 0), (13, 0), (13, 0), (13, 0), (13, 0), (13, 0), (13, 0), (13, 0), (13, 0), (13, 0), (13, 0), (13, 0), (13, 0), (13, 0), (7, 0), (5, 0), (0, 166), (0, 166), (0, 166), (0, 166), (2, 166), (0, 8), (0, 8), (0, 8), (0, 8), (0, 8), (0, 8), (7, 0), (5, 0), (0, 166), (0, 166), (0, 166), (0, 166), (2, 166), (0, 8), (0, 8), (0, 8), (0, 8), (0, 8), (0, 8)]
def kdM : List (Nat × Nat) := [(16, 0), (0, 500), (0, 1000), (0, 1000), (0, 1000), (0, 1000), (0, 1000), (0, 1000), (2, 1000), (0, 48), (0, 48), (0, 48), (0, 48), (0, 48), (0, 48), (0, 48), (0, 8), (0, 8), (0, 8), (0, 8), (0, 8), (0, 8), (0, 8), (0, 8), (0, 3), (0, 10), (0, 80), (0, 80), (0, 80), (0, 800), (0, 10), (1, 640), (1, 640), (1, 640), (1, 640), (2, 640), (2, 100), (2, 10), (0, 10), (0, 10), (1, 110), (1, 100), (0, 3), (1, 10), (1, 10), (1, 100), (1, 100), (1, 100), (1, 100)]
theorem kdC_len : kdC.length = 201 := by decide +kernel
theorem kdM_len : kdM.length = 49 := rfl
abbrev h_pr (B : Bool × Bool) : Nat := if B.1 then 118 else 61
abbrev h_sp (B : Bool × Bool) : Nat := if B.1 then 61 else 118
abbrev h_td (B : Bool × Bool) : Nat := if B.2 then 188 else 175
abbrev h_st (B : Bool × Bool) : Nat := if B.2 then 175 else 188
def RM (B : Bool × Bool) (a i : Nat) : Option Nat :=
  if a = 0 then ([some 1, some 6, some 7, some 13, some 31, some 38, some 60, some (h_pr B), some (h_sp B), some (h_td B), some (h_st B)] : List (Option Nat)).getD i none else
  if a = 1 then ([some 2, none, some 3, some 4, some 5] : List (Option Nat)).getD i none else
  if a = 6 then ([] : List (Option Nat)).getD i none else
  if a = 7 then ([some 8, some 9, some 10, some 11, some 12] : List (Option Nat)).getD i none else
  if a = 13 then ([some 7, none, some 14, some 15, some 16, some 17, some 18, some 19, some 20] : List (Option Nat)).getD i none else
  if a = 31 then ([some 7, some 32, some 37] : List (Option Nat)).getD i none else
  if a = 38 then ([some 7, none, none, some 39, none, none, some 44, some 45, none, none, none, some 46, some 47, some 48, some 49] : List (Option Nat)).getD i none else
  if a = 20 then (if i < 10 then some (a + 1 + i) else none) else
  if a = 32 then (if i < 4 then some (a + 1 + i) else none) else
  if a = 39 then (if i < 4 then some (a + 1 + i) else none) else
  if a = 49 then (if i < 10 then some (a + 1 + i) else none) else
  if a = 61 ∨ a = 118 then ([some (a + 1), some (a + 7), some (a + 8)] : List (Option Nat)).getD i none else
  if a = 62 ∨ a = 119 ∨ a = 176 ∨ a = 189 then (if i < 5 then some (a + 1 + i) else none) else
  if a = 68 ∨ a = 125 then (if i < 48 then some (a + 2 + i) else none) else
  if a = 175 ∨ a = 188 then ([some (a + 1), some (a + 7), some (a + 8), some (a + 9), some (a + 10), some (a + 11), some (a + 12)] : List (Option Nat)).getD i none else none
def RMm (a i : Nat) : Option Nat := if a = 0 then ([none, some 1, none, none, none, none, none, none, some 2, some 3, some 4, none, some 5, some 6, some 7, some 8, none, some 9, some 10, some 11, some 12, some 13, some 14, some 15, none, none, none, none, none, none, none, none, some 16, some 17, some 18, some 19, none, none, none, none, none, none, none, none, none, none, none, none, some 20, some 21, some 22, some 23, some 24, none, none, none, none, none, none, none, none, none, some 25, some 26, some 27, some 28, some 29, none, some 30, some 31, some 32, some 33, some 34, some 35, some 36, some 37, some 38, some 39, none, some 40, some 41, some 42, some 43, some 44, some 45, some 46, some 47, some 48, none, none, none, none, none, none, none, none, none] : List (Option Nat)).getD i none else none
theorem rm_0_0 (B : Bool × Bool) : RM B 0 0 = some (1) := rfl
theorem rm_0_1 (B : Bool × Bool) : RM B 0 1 = some (6) := rfl
theorem rm_0_2 (B : Bool × Bool) : RM B 0 2 = some (7) := rfl
theorem rm_0_3 (B : Bool × Bool) : RM B 0 3 = some (13) := rfl
theorem rm_0_4 (B : Bool × Bool) : RM B 0 4 = some (31) := rfl
theorem rm_0_5 (B : Bool × Bool) : RM B 0 5 = some (38) := rfl
theorem rm_0_6 (B : Bool × Bool) : RM B 0 6 = some (60) := rfl
theorem rm_0_7 (B : Bool × Bool) : RM B 0 7 = some (h_pr B) := rfl
theorem rm_0_8 (B : Bool × Bool) : RM B 0 8 = some (h_sp B) := rfl
theorem rm_0_9 (B : Bool × Bool) : RM B 0 9 = some (h_td B) := rfl
theorem rm_0_10 (B : Bool × Bool) : RM B 0 10 = some (h_st B) := rfl
theorem rm_1_0 (B : Bool × Bool) : RM B 1 0 = some (2) := rfl
theorem rm_1_2 (B : Bool × Bool) : RM B 1 2 = some (3) := rfl
theorem rm_1_3 (B : Bool × Bool) : RM B 1 3 = some (4) := rfl
theorem rm_1_4 (B : Bool × Bool) : RM B 1 4 = some (5) := rfl
theorem rm_7_0 (B : Bool × Bool) : RM B 7 0 = some (8) := rfl
theorem rm_7_1 (B : Bool × Bool) : RM B 7 1 = some (9) := rfl
theorem rm_7_2 (B : Bool × Bool) : RM B 7 2 = some (10) := rfl
theorem rm_7_3 (B : Bool × Bool) : RM B 7 3 = some (11) := rfl
theorem rm_7_4 (B : Bool × Bool) : RM B 7 4 = some (12) := rfl
theorem rm_13_0 (B : Bool × Bool) : RM B 13 0 = some (7) := rfl
theorem rm_13_2 (B : Bool × Bool) : RM B 13 2 = some (14) := rfl
theorem rm_13_3 (B : Bool × Bool) : RM B 13 3 = some (15) := rfl
theorem rm_13_4 (B : Bool × Bool) : RM B 13 4 = some (16) := rfl
theorem rm_13_5 (B : Bool × Bool) : RM B 13 5 = some (17) := rfl
theorem rm_13_6 (B : Bool × Bool) : RM B 13 6 = some (18) := rfl
theorem rm_13_7 (B : Bool × Bool) : RM B 13 7 = some (19) := rfl
theorem rm_13_8 (B : Bool × Bool) : RM B 13 8 = some (20) := rfl
theorem rm_31_0 (B : Bool × Bool) : RM B 31 0 = some (7) := rfl
theorem rm_31_1 (B : Bool × Bool) : RM B 31 1 = some (32) := rfl
theorem rm_31_2 (B : Bool × Bool) : RM B 31 2 = some (37) := rfl
theorem rm_38_0 (B : Bool × Bool) : RM B 38 0 = some (7) := rfl
theorem rm_38_3 (B : Bool × Bool) : RM B 38 3 = some (39) := rfl
theorem rm_38_6 (B : Bool × Bool) : RM B 38 6 = some (44) := rfl
theorem rm_38_7 (B : Bool × Bool) : RM B 38 7 = some (45) := rfl
theorem rm_38_11 (B : Bool × Bool) : RM B 38 11 = some (46) := rfl
theorem rm_38_12 (B : Bool × Bool) : RM B 38 12 = some (47) := rfl
theorem rm_38_13 (B : Bool × Bool) : RM B 38 13 = some (48) := rfl
theorem rm_38_14 (B : Bool × Bool) : RM B 38 14 = some (49) := rfl
theorem rmm_1 : RMm 0 1 = some 1 := rfl
theorem rmm_8 : RMm 0 8 = some 2 := rfl
theorem rmm_9 : RMm 0 9 = some 3 := rfl
theorem rmm_10 : RMm 0 10 = some 4 := rfl
theorem rmm_12 : RMm 0 12 = some 5 := rfl
theorem rmm_13 : RMm 0 13 = some 6 := rfl
theorem rmm_14 : RMm 0 14 = some 7 := rfl
theorem rmm_15 : RMm 0 15 = some 8 := rfl
theorem rmm_17 : RMm 0 17 = some 9 := rfl
theorem rmm_18 : RMm 0 18 = some 10 := rfl
theorem rmm_19 : RMm 0 19 = some 11 := rfl
theorem rmm_20 : RMm 0 20 = some 12 := rfl
theorem rmm_21 : RMm 0 21 = some 13 := rfl
theorem rmm_22 : RMm 0 22 = some 14 := rfl
theorem rmm_23 : RMm 0 23 = some 15 := rfl
theorem rmm_32 : RMm 0 32 = some 16 := rfl
theorem rmm_33 : RMm 0 33 = some 17 := rfl
theorem rmm_34 : RMm 0 34 = some 18 := rfl
theorem rmm_35 : RMm 0 35 = some 19 := rfl
theorem rmm_48 : RMm 0 48 = some 20 := rfl
theorem rmm_49 : RMm 0 49 = some 21 := rfl
theorem rmm_50 : RMm 0 50 = some 22 := rfl
theorem rmm_51 : RMm 0 51 = some 23 := rfl
theorem rmm_52 : RMm 0 52 = some 24 := rfl
theorem rmm_62 : RMm 0 62 = some 25 := rfl
theorem rmm_63 : RMm 0 63 = some 26 := rfl
theorem rmm_64 : RMm 0 64 = some 27 := rfl
theorem rmm_65 : RMm 0 65 = some 28 := rfl
theorem rmm_66 : RMm 0 66 = some 29 := rfl
theorem rmm_68 : RMm 0 68 = some 30 := rfl
theorem rmm_69 : RMm 0 69 = some 31 := rfl
theorem rmm_70 : RMm 0 70 = some 32 := rfl
theorem rmm_71 : RMm 0 71 = some 33 := rfl
theorem rmm_72 : RMm 0 72 = some 34 := rfl
theorem rmm_73 : RMm 0 73 = some 35 := rfl
theorem rmm_74 : RMm 0 74 = some 36 := rfl
theorem rmm_75 : RMm 0 75 = some 37 := rfl
theorem rmm_76 : RMm 0 76 = some 38 := rfl
theorem rmm_77 : RMm 0 77 = some 39 := rfl
theorem rmm_79 : RMm 0 79 = some 40 := rfl
theorem rmm_80 : RMm 0 80 = some 41 := rfl
theorem rmm_81 : RMm 0 81 = some 42 := rfl
theorem rmm_82 : RMm 0 82 = some 43 := rfl
theorem rmm_83 : RMm 0 83 = some 44 := rfl
theorem rmm_84 : RMm 0 84 = some 45 := rfl
theorem rmm_85 : RMm 0 85 = some 46 := rfl
theorem rmm_86 : RMm 0 86 = some 47 := rfl
theorem rmm_87 : RMm 0 87 = some 48 := rfl
theorem kc_0 : kdC[0]? = some (15, 0) := by decide +kernel
theorem kc_1 : kdC[1]? = some (11, 0) := by decide +kernel
theorem kc_2 : kdC[2]? = some (0, 500) := by decide +kernel
theorem kc_3 : kdC[3]? = some (0, 501) := by decide +kernel
theorem kc_4 : kdC[4]? = some (0, 501) := by decide +kernel
theorem kc_5 : kdC[5]? = some (0, 501) := by decide +kernel
theorem kc_6 : kdC[6]? = some (14, 0) := by decide +kernel
theorem kc_7 : kdC[7]? = some (12, 0) := by decide +kernel
theorem kc_8 : kdC[8]? = some (0, 10) := by decide +kernel
theorem kc_9 : kdC[9]? = some (0, 80) := by decide +kernel
theorem kc_10 : kdC[10]? = some (0, 80) := by decide +kernel
theorem kc_11 : kdC[11]? = some (0, 80) := by decide +kernel
theorem kc_12 : kdC[12]? = some (0, 800) := by decide +kernel
theorem kc_13 : kdC[13]? = some (10, 0) := by decide +kernel
theorem kc_14 : kdC[14]? = some (1, 40) := by decide +kernel
theorem kc_15 : kdC[15]? = some (1, 40) := by decide +kernel
theorem kc_16 : kdC[16]? = some (0, 40) := by decide +kernel
theorem kc_17 : kdC[17]? = some (0, 10) := by decide +kernel
theorem kc_18 : kdC[18]? = some (0, 10) := by decide +kernel
theorem kc_19 : kdC[19]? = some (0, 10) := by decide +kernel
theorem kc_20 : kdC[20]? = some (4, 10) := by decide +kernel
theorem kc_21 : kdC[21]? = some (1, 12) := by decide +kernel
theorem kc_22 : kdC[22]? = some (1, 12) := by decide +kernel
theorem kc_23 : kdC[23]? = some (1, 12) := by decide +kernel
theorem kc_24 : kdC[24]? = some (1, 12) := by decide +kernel
theorem kc_25 : kdC[25]? = some (1, 12) := by decide +kernel
theorem kc_26 : kdC[26]? = some (1, 12) := by decide +kernel
theorem kc_27 : kdC[27]? = some (1, 12) := by decide +kernel
theorem kc_28 : kdC[28]? = some (1, 12) := by decide +kernel
theorem kc_29 : kdC[29]? = some (1, 12) := by decide +kernel
theorem kc_30 : kdC[30]? = some (1, 12) := by decide +kernel
theorem kc_31 : kdC[31]? = some (8, 0) := by decide +kernel
theorem kc_32 : kdC[32]? = some (4, 4) := by decide +kernel
theorem kc_33 : kdC[33]? = some (1, 210) := by decide +kernel
theorem kc_34 : kdC[34]? = some (1, 210) := by decide +kernel
theorem kc_35 : kdC[35]? = some (1, 210) := by decide +kernel
theorem kc_36 : kdC[36]? = some (1, 210) := by decide +kernel
theorem kc_37 : kdC[37]? = some (0, 4) := by decide +kernel
theorem kc_38 : kdC[38]? = some (6, 0) := by decide +kernel
theorem kc_39 : kdC[39]? = some (4, 4) := by decide +kernel
theorem kc_40 : kdC[40]? = some (1, 92) := by decide +kernel
theorem kc_41 : kdC[41]? = some (1, 92) := by decide +kernel
theorem kc_42 : kdC[42]? = some (1, 92) := by decide +kernel
theorem kc_43 : kdC[43]? = some (1, 92) := by decide +kernel
theorem kc_44 : kdC[44]? = some (1, 3) := by decide +kernel
theorem kc_45 : kdC[45]? = some (1, 3) := by decide +kernel
theorem kc_46 : kdC[46]? = some (1, 2) := by decide +kernel
theorem kc_47 : kdC[47]? = some (1, 2) := by decide +kernel
theorem kc_48 : kdC[48]? = some (1, 4) := by decide +kernel
theorem kc_49 : kdC[49]? = some (4, 10) := by decide +kernel
theorem kc_50 : kdC[50]? = some (1, 4) := by decide +kernel
theorem kc_51 : kdC[51]? = some (1, 4) := by decide +kernel
theorem kc_52 : kdC[52]? = some (1, 4) := by decide +kernel
theorem kc_53 : kdC[53]? = some (1, 4) := by decide +kernel
theorem kc_54 : kdC[54]? = some (1, 4) := by decide +kernel
theorem kc_55 : kdC[55]? = some (1, 4) := by decide +kernel
theorem kc_56 : kdC[56]? = some (1, 4) := by decide +kernel
theorem kc_57 : kdC[57]? = some (1, 4) := by decide +kernel
theorem kc_58 : kdC[58]? = some (1, 4) := by decide +kernel
theorem kc_59 : kdC[59]? = some (1, 4) := by decide +kernel
theorem kc_60 : kdC[60]? = some (0, 3) := by decide +kernel
theorem kc_61 : kdC[61]? = some (9, 0) := by decide +kernel
theorem kc_62 : kdC[62]? = some (5, 0) := by decide +kernel
theorem kc_63 : kdC[63]? = some (0, 166) := by decide +kernel
theorem kc_64 : kdC[64]? = some (0, 166) := by decide +kernel
theorem kc_65 : kdC[65]? = some (0, 166) := by decide +kernel
theorem kc_66 : kdC[66]? = some (0, 166) := by decide +kernel
theorem kc_67 : kdC[67]? = some (2, 166) := by decide +kernel
theorem kc_68 : kdC[68]? = some (3, 48) := by decide +kernel
theorem kc_69 : kdC[69]? = some (0, 24) := by decide +kernel
theorem kc_70 : kdC[70]? = some (13, 0) := by decide +kernel
theorem kc_71 : kdC[71]? = some (13, 0) := by decide +kernel
theorem kc_72 : kdC[72]? = some (13, 0) := by decide +kernel
theorem kc_73 : kdC[73]? = some (13, 0) := by decide +kernel
theorem kc_74 : kdC[74]? = some (13, 0) := by decide +kernel
theorem kc_75 : kdC[75]? = some (13, 0) := by decide +kernel
theorem kc_76 : kdC[76]? = some (13, 0) := by decide +kernel
theorem kc_77 : kdC[77]? = some (13, 0) := by decide +kernel
theorem kc_78 : kdC[78]? = some (13, 0) := by decide +kernel
theorem kc_79 : kdC[79]? = some (13, 0) := by decide +kernel
theorem kc_80 : kdC[80]? = some (13, 0) := by decide +kernel
theorem kc_81 : kdC[81]? = some (13, 0) := by decide +kernel
theorem kc_82 : kdC[82]? = some (13, 0) := by decide +kernel
theorem kc_83 : kdC[83]? = some (13, 0) := by decide +kernel
theorem kc_84 : kdC[84]? = some (13, 0) := by decide +kernel
theorem kc_85 : kdC[85]? = some (13, 0) := by decide +kernel
theorem kc_86 : kdC[86]? = some (13, 0) := by decide +kernel
theorem kc_87 : kdC[87]? = some (13, 0) := by decide +kernel
theorem kc_88 : kdC[88]? = some (13, 0) := by decide +kernel
theorem kc_89 : kdC[89]? = some (13, 0) := by decide +kernel
theorem kc_90 : kdC[90]? = some (13, 0) := by decide +kernel
theorem kc_91 : kdC[91]? = some (13, 0) := by decide +kernel
theorem kc_92 : kdC[92]? = some (13, 0) := by decide +kernel
theorem kc_93 : kdC[93]? = some (13, 0) := by decide +kernel
theorem kc_94 : kdC[94]? = some (13, 0) := by decide +kernel
theorem kc_95 : kdC[95]? = some (13, 0) := by decide +kernel
theorem kc_96 : kdC[96]? = some (13, 0) := by decide +kernel
theorem kc_97 : kdC[97]? = some (13, 0) := by decide +kernel
theorem kc_98 : kdC[98]? = some (13, 0) := by decide +kernel
theorem kc_99 : kdC[99]? = some (13, 0) := by decide +kernel
theorem kc_100 : kdC[100]? = some (13, 0) := by decide +kernel
theorem kc_101 : kdC[101]? = some (13, 0) := by decide +kernel
theorem kc_102 : kdC[102]? = some (13, 0) := by decide +kernel
theorem kc_103 : kdC[103]? = some (13, 0) := by decide +kernel
theorem kc_104 : kdC[104]? = some (13, 0) := by decide +kernel
theorem kc_105 : kdC[105]? = some (13, 0) := by decide +kernel
theorem kc_106 : kdC[106]? = some (13, 0) := by decide +kernel
theorem kc_107 : kdC[107]? = some (13, 0) := by decide +kernel
theorem kc_108 : kdC[108]? = some (13, 0) := by decide +kernel
theorem kc_109 : kdC[109]? = some (13, 0) := by decide +kernel
theorem kc_110 : kdC[110]? = some (13, 0) := by decide +kernel
theorem kc_111 : kdC[111]? = some (13, 0) := by decide +kernel
theorem kc_112 : kdC[112]? = some (13, 0) := by decide +kernel
theorem kc_113 : kdC[113]? = some (13, 0) := by decide +kernel
theorem kc_114 : kdC[114]? = some (13, 0) := by decide +kernel
theorem kc_115 : kdC[115]? = some (13, 0) := by decide +kernel
theorem kc_116 : kdC[116]? = some (13, 0) := by decide +kernel
theorem kc_117 : kdC[117]? = some (13, 0) := by decide +kernel
theorem kc_118 : kdC[118]? = some (9, 0) := by decide +kernel
theorem kc_119 : kdC[119]? = some (5, 0) := by decide +kernel
theorem kc_120 : kdC[120]? = some (0, 166) := by decide +kernel
theorem kc_121 : kdC[121]? = some (0, 166) := by decide +kernel
theorem kc_122 : kdC[122]? = some (0, 166) := by decide +kernel
theorem kc_123 : kdC[123]? = some (0, 166) := by decide +kernel
theorem kc_124 : kdC[124]? = some (2, 166) := by decide +kernel
theorem kc_125 : kdC[125]? = some (3, 48) := by decide +kernel
theorem kc_126 : kdC[126]? = some (0, 24) := by decide +kernel
theorem kc_127 : kdC[127]? = some (13, 0) := by decide +kernel
theorem kc_128 : kdC[128]? = some (13, 0) := by decide +kernel
theorem kc_129 : kdC[129]? = some (13, 0) := by decide +kernel
theorem kc_130 : kdC[130]? = some (13, 0) := by decide +kernel
theorem kc_131 : kdC[131]? = some (13, 0) := by decide +kernel
theorem kc_132 : kdC[132]? = some (13, 0) := by decide +kernel
theorem kc_133 : kdC[133]? = some (13, 0) := by decide +kernel
theorem kc_134 : kdC[134]? = some (13, 0) := by decide +kernel
theorem kc_135 : kdC[135]? = some (13, 0) := by decide +kernel
theorem kc_136 : kdC[136]? = some (13, 0) := by decide +kernel
theorem kc_137 : kdC[137]? = some (13, 0) := by decide +kernel
theorem kc_138 : kdC[138]? = some (13, 0) := by decide +kernel
theorem kc_139 : kdC[139]? = some (13, 0) := by decide +kernel
theorem kc_140 : kdC[140]? = some (13, 0) := by decide +kernel
theorem kc_141 : kdC[141]? = some (13, 0) := by decide +kernel
theorem kc_142 : kdC[142]? = some (13, 0) := by decide +kernel
theorem kc_143 : kdC[143]? = some (13, 0) := by decide +kernel
theorem kc_144 : kdC[144]? = some (13, 0) := by decide +kernel
theorem kc_145 : kdC[145]? = some (13, 0) := by decide +kernel
theorem kc_146 : kdC[146]? = some (13, 0) := by decide +kernel
theorem kc_147 : kdC[147]? = some (13, 0) := by decide +kernel
theorem kc_148 : kdC[148]? = some (13, 0) := by decide +kernel
theorem kc_149 : kdC[149]? = some (13, 0) := by decide +kernel
theorem kc_150 : kdC[150]? = some (13, 0) := by decide +kernel
theorem kc_151 : kdC[151]? = some (13, 0) := by decide +kernel
theorem kc_152 : kdC[152]? = some (13, 0) := by decide +kernel
theorem kc_153 : kdC[153]? = some (13, 0) := by decide +kernel
theorem kc_154 : kdC[154]? = some (13, 0) := by decide +kernel
theorem kc_155 : kdC[155]? = some (13, 0) := by decide +kernel
theorem kc_156 : kdC[156]? = some (13, 0) := by decide +kernel
theorem kc_157 : kdC[157]? = some (13, 0) := by decide +kernel
theorem kc_158 : kdC[158]? = some (13, 0) := by decide +kernel
theorem kc_159 : kdC[159]? = some (13, 0) := by decide +kernel
theorem kc_160 : kdC[160]? = some (13, 0) := by decide +kernel
theorem kc_161 : kdC[161]? = some (13, 0) := by decide +kernel
theorem kc_162 : kdC[162]? = some (13, 0) := by decide +kernel
theorem kc_163 : kdC[163]? = some (13, 0) := by decide +kernel
theorem kc_164 : kdC[164]? = some (13, 0) := by decide +kernel
theorem kc_165 : kdC[165]? = some (13, 0) := by decide +kernel
theorem kc_166 : kdC[166]? = some (13, 0) := by decide +kernel
theorem kc_167 : kdC[167]? = some (13, 0) := by decide +kernel
theorem kc_168 : kdC[168]? = some (13, 0) := by decide +kernel
theorem kc_169 : kdC[169]? = some (13, 0) := by decide +kernel
theorem kc_170 : kdC[170]? = some (13, 0) := by decide +kernel
theorem kc_171 : kdC[171]? = some (13, 0) := by decide +kernel
theorem kc_172 : kdC[172]? = some (13, 0) := by decide +kernel
theorem kc_173 : kdC[173]? = some (13, 0) := by decide +kernel
theorem kc_174 : kdC[174]? = some (13, 0) := by decide +kernel
theorem kc_175 : kdC[175]? = some (7, 0) := by decide +kernel
theorem kc_176 : kdC[176]? = some (5, 0) := by decide +kernel
theorem kc_177 : kdC[177]? = some (0, 166) := by decide +kernel
theorem kc_178 : kdC[178]? = some (0, 166) := by decide +kernel
theorem kc_179 : kdC[179]? = some (0, 166) := by decide +kernel
theorem kc_180 : kdC[180]? = some (0, 166) := by decide +kernel
theorem kc_181 : kdC[181]? = some (2, 166) := by decide +kernel
theorem kc_182 : kdC[182]? = some (0, 8) := by decide +kernel
theorem kc_183 : kdC[183]? = some (0, 8) := by decide +kernel
theorem kc_184 : kdC[184]? = some (0, 8) := by decide +kernel
theorem kc_185 : kdC[185]? = some (0, 8) := by decide +kernel
theorem kc_186 : kdC[186]? = some (0, 8) := by decide +kernel
theorem kc_187 : kdC[187]? = some (0, 8) := by decide +kernel
theorem kc_188 : kdC[188]? = some (7, 0) := by decide +kernel
theorem kc_189 : kdC[189]? = some (5, 0) := by decide +kernel
theorem kc_190 : kdC[190]? = some (0, 166) := by decide +kernel
theorem kc_191 : kdC[191]? = some (0, 166) := by decide +kernel
theorem kc_192 : kdC[192]? = some (0, 166) := by decide +kernel
theorem kc_193 : kdC[193]? = some (0, 166) := by decide +kernel
theorem kc_194 : kdC[194]? = some (2, 166) := by decide +kernel
theorem kc_195 : kdC[195]? = some (0, 8) := by decide +kernel
theorem kc_196 : kdC[196]? = some (0, 8) := by decide +kernel
theorem kc_197 : kdC[197]? = some (0, 8) := by decide +kernel
theorem kc_198 : kdC[198]? = some (0, 8) := by decide +kernel
theorem kc_199 : kdC[199]? = some (0, 8) := by decide +kernel
theorem kc_200 : kdC[200]? = some (0, 8) := by decide +kernel
theorem km_0 : kdM[0]? = some (16, 0) := by decide +kernel
theorem km_1 : kdM[1]? = some (0, 500) := by decide +kernel
theorem km_2 : kdM[2]? = some (0, 1000) := by decide +kernel
theorem km_3 : kdM[3]? = some (0, 1000) := by decide +kernel
theorem km_4 : kdM[4]? = some (0, 1000) := by decide +kernel
theorem km_5 : kdM[5]? = some (0, 1000) := by decide +kernel
theorem km_6 : kdM[6]? = some (0, 1000) := by decide +kernel
theorem km_7 : kdM[7]? = some (0, 1000) := by decide +kernel
theorem km_8 : kdM[8]? = some (2, 1000) := by decide +kernel
theorem km_9 : kdM[9]? = some (0, 48) := by decide +kernel
theorem km_10 : kdM[10]? = some (0, 48) := by decide +kernel
theorem km_11 : kdM[11]? = some (0, 48) := by decide +kernel
theorem km_12 : kdM[12]? = some (0, 48) := by decide +kernel
theorem km_13 : kdM[13]? = some (0, 48) := by decide +kernel
theorem km_14 : kdM[14]? = some (0, 48) := by decide +kernel
theorem km_15 : kdM[15]? = some (0, 48) := by decide +kernel
theorem km_16 : kdM[16]? = some (0, 8) := by decide +kernel
theorem km_17 : kdM[17]? = some (0, 8) := by decide +kernel
theorem km_18 : kdM[18]? = some (0, 8) := by decide +kernel
theorem km_19 : kdM[19]? = some (0, 8) := by decide +kernel
theorem km_20 : kdM[20]? = some (0, 8) := by decide +kernel
theorem km_21 : kdM[21]? = some (0, 8) := by decide +kernel
theorem km_22 : kdM[22]? = some (0, 8) := by decide +kernel
theorem km_23 : kdM[23]? = some (0, 8) := by decide +kernel
theorem km_24 : kdM[24]? = some (0, 3) := by decide +kernel
theorem km_25 : kdM[25]? = some (0, 10) := by decide +kernel
theorem km_26 : kdM[26]? = some (0, 80) := by decide +kernel
theorem km_27 : kdM[27]? = some (0, 80) := by decide +kernel
theorem km_28 : kdM[28]? = some (0, 80) := by decide +kernel
theorem km_29 : kdM[29]? = some (0, 800) := by decide +kernel
theorem km_30 : kdM[30]? = some (0, 10) := by decide +kernel
theorem km_31 : kdM[31]? = some (1, 640) := by decide +kernel
theorem km_32 : kdM[32]? = some (1, 640) := by decide +kernel
theorem km_33 : kdM[33]? = some (1, 640) := by decide +kernel
theorem km_34 : kdM[34]? = some (1, 640) := by decide +kernel
theorem km_35 : kdM[35]? = some (2, 640) := by decide +kernel
theorem km_36 : kdM[36]? = some (2, 100) := by decide +kernel
theorem km_37 : kdM[37]? = some (2, 10) := by decide +kernel
theorem km_38 : kdM[38]? = some (0, 10) := by decide +kernel
theorem km_39 : kdM[39]? = some (0, 10) := by decide +kernel
theorem km_40 : kdM[40]? = some (1, 110) := by decide +kernel
theorem km_41 : kdM[41]? = some (1, 100) := by decide +kernel
theorem km_42 : kdM[42]? = some (0, 3) := by decide +kernel
theorem km_43 : kdM[43]? = some (1, 10) := by decide +kernel
theorem km_44 : kdM[44]? = some (1, 10) := by decide +kernel
theorem km_45 : kdM[45]? = some (1, 100) := by decide +kernel
theorem km_46 : kdM[46]? = some (1, 100) := by decide +kernel
theorem km_47 : kdM[47]? = some (1, 100) := by decide +kernel
theorem km_48 : kdM[48]? = some (1, 100) := by decide +kernel
theorem h_getD_out (l : List (Option Nat)) {i : Nat} (h : l.length ≤ i) : l.getD i none = none := by simp [List.getD, List.getElem?_eq_none h]
def h_LT (t : Nat) : Prop := t = 61 ∨ t = 118
def h_GT (t : Nat) : Prop := t = 175 ∨ t = 188
def h_CD (t : Nat) : Prop := t = 62 ∨ t = 119 ∨ t = 176 ∨ t = 189
def h_ST (s : Nat) : Prop := kdC[s]? = some (13, 0)
theorem lt_pr (B : Bool × Bool) : h_LT (h_pr B) := by rcases B with ⟨_ | _, b⟩ <;> simp [h_LT, h_pr]
theorem lt_sp (B : Bool × Bool) : h_LT (h_sp B) := by rcases B with ⟨_ | _, b⟩ <;> simp [h_LT, h_sp]
theorem gt_td (B : Bool × Bool) : h_GT (h_td B) := by rcases B with ⟨b, _ | _⟩ <;> simp [h_GT, h_td]
theorem gt_st (B : Bool × Bool) : h_GT (h_st B) := by rcases B with ⟨b, _ | _⟩ <;> simp [h_GT, h_st]
theorem h_sw1 (B : Bool × Bool) : h_u (h_u (RM B) 0 7 (some (h_sp B))) 0 8 (some (h_pr B)) = RM (!B.1, B.2) := by
  funext a i
  by_cases ha : a = 0
  · subst ha
    rcases B with ⟨_ | _, _ | _⟩ <;>
    (by_cases h : i < 15
     · have : i = 0 ∨ i = 1 ∨ i = 2 ∨ i = 3 ∨ i = 4 ∨ i = 5 ∨ i = 6 ∨ i = 7 ∨ i = 8 ∨ i = 9 ∨ i = 10 ∨ i = 11 ∨ i = 12 ∨ i = 13 ∨ i = 14 := by omega
       rcases this with rfl | rfl | rfl | rfl | rfl | rfl | rfl | rfl | rfl | rfl | rfl | rfl | rfl | rfl | rfl <;> rfl
     · rw [h_u_pl _ _ _ (by omega), h_u_pl _ _ _ (by omega)]
       simp only [RM, if_true]
       rw [h_getD_out _ (by simp; omega), h_getD_out _ (by simp; omega)])
  · rw [h_u_off _ _ _ ha, h_u_off _ _ _ ha]
    simp only [RM, if_neg ha]
theorem h_sw2 (B : Bool × Bool) : h_u (h_u (RM B) 0 9 (some (h_st B))) 0 10 (some (h_td B)) = RM (B.1, !B.2) := by
  funext a i
  by_cases ha : a = 0
  · subst ha
    rcases B with ⟨_ | _, _ | _⟩ <;>
    (by_cases h : i < 15
     · have : i = 0 ∨ i = 1 ∨ i = 2 ∨ i = 3 ∨ i = 4 ∨ i = 5 ∨ i = 6 ∨ i = 7 ∨ i = 8 ∨ i = 9 ∨ i = 10 ∨ i = 11 ∨ i = 12 ∨ i = 13 ∨ i = 14 := by omega
       rcases this with rfl | rfl | rfl | rfl | rfl | rfl | rfl | rfl | rfl | rfl | rfl | rfl | rfl | rfl | rfl <;> rfl
     · rw [h_u_pl _ _ _ (by omega), h_u_pl _ _ _ (by omega)]
       simp only [RM, if_true]
       rw [h_getD_out _ (by simp; omega), h_getD_out _ (by simp; omega)])
  · rw [h_u_off _ _ _ ha, h_u_off _ _ _ ha]
    simp only [RM, if_neg ha]
theorem k_LT {t : Nat} (h : h_LT t) : kdC[t]? = some (9, 0) := by rcases h with rfl | rfl <;> decide +kernel
theorem k_LT7 {t : Nat} (h : h_LT t) : kdC[t + 7]? = some (3, 48) := by rcases h with rfl | rfl <;> decide +kernel
theorem k_LT8 {t : Nat} (h : h_LT t) : kdC[t + 8]? = some (0, 24) := by rcases h with rfl | rfl <;> decide +kernel
theorem cd_LT {t : Nat} (h : h_LT t) : h_CD (t + 1) := by rcases h with rfl | rfl <;> simp [h_CD]
theorem rm_LT_0 {t : Nat} (B : Bool × Bool) (h : h_LT t) : RM B t 0 = some (t + 1) := by rcases h with rfl | rfl <;> rfl
theorem rm_LT_1 {t : Nat} (B : Bool × Bool) (h : h_LT t) : RM B t 1 = some (t + 7) := by rcases h with rfl | rfl <;> rfl
theorem rm_LT_2 {t : Nat} (B : Bool × Bool) (h : h_LT t) : RM B t 2 = some (t + 8) := by rcases h with rfl | rfl <;> rfl
theorem k_GT {t : Nat} (h : h_GT t) : kdC[t]? = some (7, 0) := by rcases h with rfl | rfl <;> decide +kernel
theorem cd_GT {t : Nat} (h : h_GT t) : h_CD (t + 1) := by rcases h with rfl | rfl <;> simp [h_CD]
theorem rm_GT_0 {t : Nat} (B : Bool × Bool) (h : h_GT t) : RM B t 0 = some (t + 1) := by rcases h with rfl | rfl <;> rfl
theorem rm_GT_1 {t : Nat} (B : Bool × Bool) (h : h_GT t) : RM B t 1 = some (t + 7) := by rcases h with rfl | rfl <;> rfl
theorem k_GT7 {t : Nat} (h : h_GT t) : kdC[t + 7]? = some (0, 8) := by rcases h with rfl | rfl <;> decide +kernel
theorem rm_GT_2 {t : Nat} (B : Bool × Bool) (h : h_GT t) : RM B t 2 = some (t + 8) := by rcases h with rfl | rfl <;> rfl
theorem k_GT8 {t : Nat} (h : h_GT t) : kdC[t + 8]? = some (0, 8) := by rcases h with rfl | rfl <;> decide +kernel
theorem rm_GT_3 {t : Nat} (B : Bool × Bool) (h : h_GT t) : RM B t 3 = some (t + 9) := by rcases h with rfl | rfl <;> rfl
theorem k_GT9 {t : Nat} (h : h_GT t) : kdC[t + 9]? = some (0, 8) := by rcases h with rfl | rfl <;> decide +kernel
theorem rm_GT_4 {t : Nat} (B : Bool × Bool) (h : h_GT t) : RM B t 4 = some (t + 10) := by rcases h with rfl | rfl <;> rfl
theorem k_GT10 {t : Nat} (h : h_GT t) : kdC[t + 10]? = some (0, 8) := by rcases h with rfl | rfl <;> decide +kernel
theorem rm_GT_5 {t : Nat} (B : Bool × Bool) (h : h_GT t) : RM B t 5 = some (t + 11) := by rcases h with rfl | rfl <;> rfl
theorem k_GT11 {t : Nat} (h : h_GT t) : kdC[t + 11]? = some (0, 8) := by rcases h with rfl | rfl <;> decide +kernel
theorem rm_GT_6 {t : Nat} (B : Bool × Bool) (h : h_GT t) : RM B t 6 = some (t + 12) := by rcases h with rfl | rfl <;> rfl
theorem k_GT12 {t : Nat} (h : h_GT t) : kdC[t + 12]? = some (0, 8) := by rcases h with rfl | rfl <;> decide +kernel
theorem k_CD {t : Nat} (h : h_CD t) : kdC[t]? = some (5, 0) := by rcases h with rfl | rfl | rfl | rfl <;> decide +kernel
theorem rm_CD_0 {t : Nat} (B : Bool × Bool) (h : h_CD t) : RM B t 0 = some (t + 1) := by rcases h with rfl | rfl | rfl | rfl <;> rfl
theorem k_CD1 {t : Nat} (h : h_CD t) : kdC[t + 1]? = some (0, 166) := by rcases h with rfl | rfl | rfl | rfl <;> decide +kernel
theorem rm_CD_1 {t : Nat} (B : Bool × Bool) (h : h_CD t) : RM B t 1 = some (t + 2) := by rcases h with rfl | rfl | rfl | rfl <;> rfl
theorem k_CD2 {t : Nat} (h : h_CD t) : kdC[t + 2]? = some (0, 166) := by rcases h with rfl | rfl | rfl | rfl <;> decide +kernel
theorem rm_CD_2 {t : Nat} (B : Bool × Bool) (h : h_CD t) : RM B t 2 = some (t + 3) := by rcases h with rfl | rfl | rfl | rfl <;> rfl
theorem k_CD3 {t : Nat} (h : h_CD t) : kdC[t + 3]? = some (0, 166) := by rcases h with rfl | rfl | rfl | rfl <;> decide +kernel
theorem rm_CD_3 {t : Nat} (B : Bool × Bool) (h : h_CD t) : RM B t 3 = some (t + 4) := by rcases h with rfl | rfl | rfl | rfl <;> rfl
theorem k_CD4 {t : Nat} (h : h_CD t) : kdC[t + 4]? = some (0, 166) := by rcases h with rfl | rfl | rfl | rfl <;> decide +kernel
theorem rm_CD_4 {t : Nat} (B : Bool × Bool) (h : h_CD t) : RM B t 4 = some (t + 5) := by rcases h with rfl | rfl | rfl | rfl <;> rfl
theorem k_CD5 {t : Nat} (h : h_CD t) : kdC[t + 5]? = some (2, 166) := by rcases h with rfl | rfl | rfl | rfl <;> decide +kernel
theorem h_in_lt {x : Int32} {n : Nat} (h : vp_in x n) : x.toNatClampNeg < n := Nat.not_le.mp fun q => h (Or.inr q)
theorem h_steps61 : ∀ i, i < 48 → RM (false, false) 68 i = some (70 + i) ∧ kdC[70 + i]? = some (13, 0) := by decide +kernel
theorem h_steps118 : ∀ i, i < 48 → RM (false, false) 125 i = some (127 + i) ∧ kdC[127 + i]? = some (13, 0) := by decide +kernel
theorem rm_SA {t : Nat} (B : Bool × Bool) (h : h_LT t) {i : Nat} (hi : i < 48) : RM B (t + 7) i = some (t + 9 + i) := by
  rcases h with rfl | rfl
  · exact (h_steps61 i hi).1
  · exact (h_steps118 i hi).1
theorem st_SA {t : Nat} (h : h_LT t) {i : Nat} (hi : i < 48) : h_ST (t + 9 + i) := by
  rcases h with rfl | rfl
  · exact (h_steps61 i hi).2
  · exact (h_steps118 i hi).2
theorem rm_JJ_20 (B : Bool × Bool) : ∀ i, i < 10 → RM B 20 i = some (21 + i) := fun i hi => by
  show RM (false, false) 20 i = _
  revert i hi; decide +kernel
theorem k_JJ_20 : ∀ i, i < 10 → kdC[21 + i]? = some (1, 12) := by decide +kernel
theorem rm_JJ_32 (B : Bool × Bool) : ∀ i, i < 4 → RM B 32 i = some (33 + i) := fun i hi => by
  show RM (false, false) 32 i = _
  revert i hi; decide +kernel
theorem k_JJ_32 : ∀ i, i < 4 → kdC[33 + i]? = some (1, 210) := by decide +kernel
theorem rm_JJ_39 (B : Bool × Bool) : ∀ i, i < 4 → RM B 39 i = some (40 + i) := fun i hi => by
  show RM (false, false) 39 i = _
  revert i hi; decide +kernel
theorem k_JJ_39 : ∀ i, i < 4 → kdC[40 + i]? = some (1, 92) := by decide +kernel
theorem rm_JJ_49 (B : Bool × Bool) : ∀ i, i < 10 → RM B 49 i = some (50 + i) := fun i hi => by
  show RM (false, false) 49 i = _
  revert i hi; decide +kernel
theorem k_JJ_49 : ∀ i, i < 10 → kdC[50 + i]? = some (1, 4) := by decide +kernel
