/-! What the statement gives of the start: classes, array classes, texts, statics. -/
theorem ht_1 (i : Nat) {w : Cond} (hi : tables_1_1[i]? = some w) : w ∈ lw_tbl := by
  have h : w ∈ tables_1_1 := List.mem_of_getElem? hi
  have h2 : w ∈ tables_1 := List.mem_append_left _ h
  exact List.mem_append_right _ h2
theorem ht_2 (i : Nat) {w : Cond} (hi : tables_1_2[i]? = some w) : w ∈ lw_tbl := by
  have h : w ∈ tables_1_2 := List.mem_of_getElem? hi
  have h2 : w ∈ tables_1 := List.mem_append_right _ (List.mem_append_left _ h)
  exact List.mem_append_right _ h2
theorem ht_3 (i : Nat) {w : Cond} (hi : tables_1_3[i]? = some w) : w ∈ lw_tbl := by
  have h : w ∈ tables_1_3 := List.mem_of_getElem? hi
  have h2 : w ∈ tables_1 := List.mem_append_right _ (List.mem_append_right _ (List.mem_append_left _ h))
  exact List.mem_append_right _ h2
theorem ht_4 (i : Nat) {w : Cond} (hi : tables_1_4[i]? = some w) : w ∈ lw_tbl := by
  have h : w ∈ tables_1_4 := List.mem_of_getElem? hi
  have h2 : w ∈ tables_1 := List.mem_append_right _ (List.mem_append_right _ (List.mem_append_right _ (List.mem_append_left _ h)))
  exact List.mem_append_right _ h2
theorem ht_5 (i : Nat) {w : Cond} (hi : tables_1_5[i]? = some w) : w ∈ lw_tbl := by
  have h : w ∈ tables_1_5 := List.mem_of_getElem? hi
  have h2 : w ∈ tables_1 := List.mem_append_right _ (List.mem_append_right _ (List.mem_append_right _ (List.mem_append_right _ (List.mem_append_left _ h))))
  exact List.mem_append_right _ h2
theorem ht_6 (i : Nat) {w : Cond} (hi : tables_1_6[i]? = some w) : w ∈ lw_tbl := by
  have h : w ∈ tables_1_6 := List.mem_of_getElem? hi
  have h2 : w ∈ tables_1 := List.mem_append_right _ (List.mem_append_right _ (List.mem_append_right _ (List.mem_append_right _ (List.mem_append_right _ (List.mem_append_left _ h)))))
  exact List.mem_append_right _ h2
theorem ht_7 (i : Nat) {w : Cond} (hi : tables_1_7[i]? = some w) : w ∈ lw_tbl := by
  have h : w ∈ tables_1_7 := List.mem_of_getElem? hi
  have h2 : w ∈ tables_1 := List.mem_append_right _ (List.mem_append_right _ (List.mem_append_right _ (List.mem_append_right _ (List.mem_append_right _ (List.mem_append_right _ (List.mem_append_left _ h))))))
  exact List.mem_append_right _ h2
theorem ht_8 (i : Nat) {w : Cond} (hi : tables_1_8[i]? = some w) : w ∈ lw_tbl := by
  have h : w ∈ tables_1_8 := List.mem_of_getElem? hi
  have h2 : w ∈ tables_1 := List.mem_append_right _ (List.mem_append_right _ (List.mem_append_right _ (List.mem_append_right _ (List.mem_append_right _ (List.mem_append_right _ (List.mem_append_right _ (List.mem_append_left _ h)))))))
  exact List.mem_append_right _ h2
theorem ht_9 (i : Nat) {w : Cond} (hi : tables_1_9[i]? = some w) : w ∈ lw_tbl := by
  have h : w ∈ tables_1_9 := List.mem_of_getElem? hi
  have h2 : w ∈ tables_1 := List.mem_append_right _ (List.mem_append_right _ (List.mem_append_right _ (List.mem_append_right _ (List.mem_append_right _ (List.mem_append_right _ (List.mem_append_right _ (List.mem_append_right _ (h))))))))
  exact List.mem_append_right _ h2
def s_ix : List Nat := [100, 106, 108, 110, 112, 114, 116, 118, 120, 122, 124]
def s_tm (i : Nat) : Term := .string "CoinLoops$Reader" (s_ix.getD i 0)
abbrev s_all (b : Nat) (s : State) : Prop := ∀ c ∈ flatC (Jvm.Cond.and given_1 narrow_1), c.before #[Value.ref b] s = true
theorem s_ex {b : Nat} {s : State} (hh : s_all b s) : ∀ i : Nat, i < 11 → (Cond.exactly (s_tm i) "java/lang/String").before #[Value.ref b] s = true
  | 0, _ => hh _ (List.mem_of_getElem? (i := 23) rfl)
  | 1, _ => hh _ (List.mem_of_getElem? (i := 28) rfl)
  | 2, _ => hh _ (List.mem_of_getElem? (i := 34) rfl)
  | 3, _ => hh _ (List.mem_of_getElem? (i := 45) rfl)
  | 4, _ => hh _ (List.mem_of_getElem? (i := 55) rfl)
  | 5, _ => hh _ (List.mem_of_getElem? (i := 67) rfl)
  | 6, _ => hh _ (List.mem_of_getElem? (i := 80) rfl)
  | 7, _ => hh _ (List.mem_of_getElem? (i := 92) rfl)
  | 8, _ => hh _ (List.mem_of_getElem? (i := 106) rfl)
  | 9, _ => hh _ (List.mem_of_getElem? (i := 121) rfl)
  | 10, _ => hh _ (List.mem_of_getElem? (i := 136) rfl)
  | i + 11, h => absurd h (by omega)
theorem s_co {b : Nat} {s : State} (hh : s_all b s) : ∀ i : Nat, i < 11 → (Cond.eq (.field (s_tm i) "java/lang/String" "coder" "B") (.int 0)).before #[Value.ref b] s = true
  | 0, _ => hh _ (List.mem_of_getElem? (i := 24) rfl)
  | 1, _ => hh _ (List.mem_of_getElem? (i := 29) rfl)
  | 2, _ => hh _ (List.mem_of_getElem? (i := 35) rfl)
  | 3, _ => hh _ (List.mem_of_getElem? (i := 46) rfl)
  | 4, _ => hh _ (List.mem_of_getElem? (i := 56) rfl)
  | 5, _ => hh _ (List.mem_of_getElem? (i := 68) rfl)
  | 6, _ => hh _ (List.mem_of_getElem? (i := 81) rfl)
  | 7, _ => hh _ (List.mem_of_getElem? (i := 93) rfl)
  | 8, _ => hh _ (List.mem_of_getElem? (i := 107) rfl)
  | 9, _ => hh _ (List.mem_of_getElem? (i := 122) rfl)
  | 10, _ => hh _ (List.mem_of_getElem? (i := 137) rfl)
  | i + 11, h => absurd h (by omega)
theorem s_ar {b : Nat} {s : State} (hh : s_all b s) : ∀ i : Nat, i < 11 → (Cond.arrayOf (.field (s_tm i) "java/lang/String" "value" "[B") .byte).before #[Value.ref b] s = true
  | 0, _ => hh _ (List.mem_of_getElem? (i := 25) rfl)
  | 1, _ => hh _ (List.mem_of_getElem? (i := 30) rfl)
  | 2, _ => hh _ (List.mem_of_getElem? (i := 36) rfl)
  | 3, _ => hh _ (List.mem_of_getElem? (i := 47) rfl)
  | 4, _ => hh _ (List.mem_of_getElem? (i := 57) rfl)
  | 5, _ => hh _ (List.mem_of_getElem? (i := 69) rfl)
  | 6, _ => hh _ (List.mem_of_getElem? (i := 82) rfl)
  | 7, _ => hh _ (List.mem_of_getElem? (i := 94) rfl)
  | 8, _ => hh _ (List.mem_of_getElem? (i := 108) rfl)
  | 9, _ => hh _ (List.mem_of_getElem? (i := 123) rfl)
  | 10, _ => hh _ (List.mem_of_getElem? (i := 138) rfl)
  | i + 11, h => absurd h (by omega)
theorem s_le {b : Nat} {s : State} (hh : s_all b s) : ∀ i : Nat, i < 11 → (Cond.eq (.length (.field (s_tm i) "java/lang/String" "value" "[B")) (.int (Int32.ofNat (h_len.getD i 0)))).before #[Value.ref b] s = true
  | 0, _ => hh _ (List.mem_of_getElem? (i := 26) rfl)
  | 1, _ => hh _ (List.mem_of_getElem? (i := 31) rfl)
  | 2, _ => hh _ (List.mem_of_getElem? (i := 37) rfl)
  | 3, _ => hh _ (List.mem_of_getElem? (i := 48) rfl)
  | 4, _ => hh _ (List.mem_of_getElem? (i := 58) rfl)
  | 5, _ => hh _ (List.mem_of_getElem? (i := 70) rfl)
  | 6, _ => hh _ (List.mem_of_getElem? (i := 83) rfl)
  | 7, _ => hh _ (List.mem_of_getElem? (i := 95) rfl)
  | 8, _ => hh _ (List.mem_of_getElem? (i := 109) rfl)
  | 9, _ => hh _ (List.mem_of_getElem? (i := 124) rfl)
  | 10, _ => hh _ (List.mem_of_getElem? (i := 139) rfl)
  | i + 11, h => absurd h (by omega)
theorem s_el {b : Nat} {s : State} (hh : s_all b s) : ∀ i : Nat, i < 11 → ∀ j : Nat, j < h_len.getD i 0 → (Cond.eq (.elem (.field (s_tm i) "java/lang/String" "value" "[B") (.int (Int32.ofNat j))) (.int ((h_byt.getD i []).getD j 0))).before #[Value.ref b] s = true
  | 0, _, 0, _ => hh _ (List.mem_of_getElem? (i := 27) rfl)
  | 0, _, j + 1, h => absurd h (Nat.not_lt.mpr (Nat.le_add_left _ _))
  | 1, _, 0, _ => hh _ (List.mem_of_getElem? (i := 32) rfl)
  | 1, _, j + 1, h => absurd h (Nat.not_lt.mpr (Nat.le_add_left _ _))
  | 2, _, 0, _ => hh _ (List.mem_of_getElem? (i := 38) rfl)
  | 2, _, 1, _ => hh _ (List.mem_of_getElem? (i := 39) rfl)
  | 2, _, 2, _ => hh _ (List.mem_of_getElem? (i := 40) rfl)
  | 2, _, 3, _ => hh _ (List.mem_of_getElem? (i := 41) rfl)
  | 2, _, 4, _ => hh _ (List.mem_of_getElem? (i := 42) rfl)
  | 2, _, j + 5, h => absurd h (Nat.not_lt.mpr (Nat.le_add_left _ _))
  | 3, _, 0, _ => hh _ (List.mem_of_getElem? (i := 49) rfl)
  | 3, _, 1, _ => hh _ (List.mem_of_getElem? (i := 50) rfl)
  | 3, _, 2, _ => hh _ (List.mem_of_getElem? (i := 51) rfl)
  | 3, _, j + 3, h => absurd h (Nat.not_lt.mpr (Nat.le_add_left _ _))
  | 4, _, 0, _ => hh _ (List.mem_of_getElem? (i := 59) rfl)
  | 4, _, 1, _ => hh _ (List.mem_of_getElem? (i := 60) rfl)
  | 4, _, 2, _ => hh _ (List.mem_of_getElem? (i := 61) rfl)
  | 4, _, 3, _ => hh _ (List.mem_of_getElem? (i := 62) rfl)
  | 4, _, j + 4, h => absurd h (Nat.not_lt.mpr (Nat.le_add_left _ _))
  | 5, _, 0, _ => hh _ (List.mem_of_getElem? (i := 71) rfl)
  | 5, _, 1, _ => hh _ (List.mem_of_getElem? (i := 72) rfl)
  | 5, _, 2, _ => hh _ (List.mem_of_getElem? (i := 73) rfl)
  | 5, _, 3, _ => hh _ (List.mem_of_getElem? (i := 74) rfl)
  | 5, _, j + 4, h => absurd h (Nat.not_lt.mpr (Nat.le_add_left _ _))
  | 6, _, 0, _ => hh _ (List.mem_of_getElem? (i := 84) rfl)
  | 6, _, 1, _ => hh _ (List.mem_of_getElem? (i := 85) rfl)
  | 6, _, j + 2, h => absurd h (Nat.not_lt.mpr (Nat.le_add_left _ _))
  | 7, _, 0, _ => hh _ (List.mem_of_getElem? (i := 96) rfl)
  | 7, _, 1, _ => hh _ (List.mem_of_getElem? (i := 97) rfl)
  | 7, _, 2, _ => hh _ (List.mem_of_getElem? (i := 98) rfl)
  | 7, _, j + 3, h => absurd h (Nat.not_lt.mpr (Nat.le_add_left _ _))
  | 8, _, 0, _ => hh _ (List.mem_of_getElem? (i := 110) rfl)
  | 8, _, 1, _ => hh _ (List.mem_of_getElem? (i := 111) rfl)
  | 8, _, 2, _ => hh _ (List.mem_of_getElem? (i := 112) rfl)
  | 8, _, j + 3, h => absurd h (Nat.not_lt.mpr (Nat.le_add_left _ _))
  | 9, _, 0, _ => hh _ (List.mem_of_getElem? (i := 125) rfl)
  | 9, _, 1, _ => hh _ (List.mem_of_getElem? (i := 126) rfl)
  | 9, _, j + 2, h => absurd h (Nat.not_lt.mpr (Nat.le_add_left _ _))
  | 10, _, 0, _ => hh _ (List.mem_of_getElem? (i := 140) rfl)
  | 10, _, 1, _ => hh _ (List.mem_of_getElem? (i := 141) rfl)
  | 10, _, j + 2, h => absurd h (Nat.not_lt.mpr (Nat.le_add_left _ _))
  | i + 11, h, _, _ => absurd h (by omega)
theorem s_ne {b : Nat} {s : State} (hh : s_all b s) : ∀ i j : Nat, i < 11 → j < 11 → i ≠ j → (Cond.not (Cond.eq (s_tm i) (s_tm j))).before #[Value.ref b] s = true ∨ (Cond.not (Cond.eq (s_tm j) (s_tm i))).before #[Value.ref b] s = true
  | 0, 0, _, _, h => absurd rfl h
  | 0, 1, _, _, _ => Or.inl (hh _ (List.mem_of_getElem? (i := 33) rfl))
  | 0, 2, _, _, _ => Or.inl (hh _ (List.mem_of_getElem? (i := 43) rfl))
  | 0, 3, _, _, _ => Or.inl (hh _ (List.mem_of_getElem? (i := 52) rfl))
  | 0, 4, _, _, _ => Or.inl (hh _ (List.mem_of_getElem? (i := 63) rfl))
  | 0, 5, _, _, _ => Or.inl (hh _ (List.mem_of_getElem? (i := 75) rfl))
  | 0, 6, _, _, _ => Or.inl (hh _ (List.mem_of_getElem? (i := 86) rfl))
  | 0, 7, _, _, _ => Or.inl (hh _ (List.mem_of_getElem? (i := 99) rfl))
  | 0, 8, _, _, _ => Or.inl (hh _ (List.mem_of_getElem? (i := 113) rfl))
  | 0, 9, _, _, _ => Or.inl (hh _ (List.mem_of_getElem? (i := 127) rfl))
  | 0, 10, _, _, _ => Or.inl (hh _ (List.mem_of_getElem? (i := 142) rfl))
  | 1, 0, _, _, _ => Or.inr (hh _ (List.mem_of_getElem? (i := 33) rfl))
  | 1, 1, _, _, h => absurd rfl h
  | 1, 2, _, _, _ => Or.inl (hh _ (List.mem_of_getElem? (i := 44) rfl))
  | 1, 3, _, _, _ => Or.inl (hh _ (List.mem_of_getElem? (i := 53) rfl))
  | 1, 4, _, _, _ => Or.inl (hh _ (List.mem_of_getElem? (i := 64) rfl))
  | 1, 5, _, _, _ => Or.inl (hh _ (List.mem_of_getElem? (i := 76) rfl))
  | 1, 6, _, _, _ => Or.inl (hh _ (List.mem_of_getElem? (i := 87) rfl))
  | 1, 7, _, _, _ => Or.inl (hh _ (List.mem_of_getElem? (i := 100) rfl))
  | 1, 8, _, _, _ => Or.inl (hh _ (List.mem_of_getElem? (i := 114) rfl))
  | 1, 9, _, _, _ => Or.inl (hh _ (List.mem_of_getElem? (i := 128) rfl))
  | 1, 10, _, _, _ => Or.inl (hh _ (List.mem_of_getElem? (i := 143) rfl))
  | 2, 0, _, _, _ => Or.inr (hh _ (List.mem_of_getElem? (i := 43) rfl))
  | 2, 1, _, _, _ => Or.inr (hh _ (List.mem_of_getElem? (i := 44) rfl))
  | 2, 2, _, _, h => absurd rfl h
  | 2, 3, _, _, _ => Or.inl (hh _ (List.mem_of_getElem? (i := 54) rfl))
  | 2, 4, _, _, _ => Or.inl (hh _ (List.mem_of_getElem? (i := 65) rfl))
  | 2, 5, _, _, _ => Or.inl (hh _ (List.mem_of_getElem? (i := 77) rfl))
  | 2, 6, _, _, _ => Or.inl (hh _ (List.mem_of_getElem? (i := 88) rfl))
  | 2, 7, _, _, _ => Or.inl (hh _ (List.mem_of_getElem? (i := 101) rfl))
  | 2, 8, _, _, _ => Or.inl (hh _ (List.mem_of_getElem? (i := 115) rfl))
  | 2, 9, _, _, _ => Or.inl (hh _ (List.mem_of_getElem? (i := 129) rfl))
  | 2, 10, _, _, _ => Or.inl (hh _ (List.mem_of_getElem? (i := 144) rfl))
  | 3, 0, _, _, _ => Or.inr (hh _ (List.mem_of_getElem? (i := 52) rfl))
  | 3, 1, _, _, _ => Or.inr (hh _ (List.mem_of_getElem? (i := 53) rfl))
  | 3, 2, _, _, _ => Or.inr (hh _ (List.mem_of_getElem? (i := 54) rfl))
  | 3, 3, _, _, h => absurd rfl h
  | 3, 4, _, _, _ => Or.inl (hh _ (List.mem_of_getElem? (i := 66) rfl))
  | 3, 5, _, _, _ => Or.inl (hh _ (List.mem_of_getElem? (i := 78) rfl))
  | 3, 6, _, _, _ => Or.inl (hh _ (List.mem_of_getElem? (i := 89) rfl))
  | 3, 7, _, _, _ => Or.inl (hh _ (List.mem_of_getElem? (i := 102) rfl))
  | 3, 8, _, _, _ => Or.inl (hh _ (List.mem_of_getElem? (i := 116) rfl))
  | 3, 9, _, _, _ => Or.inl (hh _ (List.mem_of_getElem? (i := 130) rfl))
  | 3, 10, _, _, _ => Or.inl (hh _ (List.mem_of_getElem? (i := 145) rfl))
  | 4, 0, _, _, _ => Or.inr (hh _ (List.mem_of_getElem? (i := 63) rfl))
  | 4, 1, _, _, _ => Or.inr (hh _ (List.mem_of_getElem? (i := 64) rfl))
  | 4, 2, _, _, _ => Or.inr (hh _ (List.mem_of_getElem? (i := 65) rfl))
  | 4, 3, _, _, _ => Or.inr (hh _ (List.mem_of_getElem? (i := 66) rfl))
  | 4, 4, _, _, h => absurd rfl h
  | 4, 5, _, _, _ => Or.inl (hh _ (List.mem_of_getElem? (i := 79) rfl))
  | 4, 6, _, _, _ => Or.inl (hh _ (List.mem_of_getElem? (i := 90) rfl))
  | 4, 7, _, _, _ => Or.inl (hh _ (List.mem_of_getElem? (i := 103) rfl))
  | 4, 8, _, _, _ => Or.inl (hh _ (List.mem_of_getElem? (i := 117) rfl))
  | 4, 9, _, _, _ => Or.inl (hh _ (List.mem_of_getElem? (i := 131) rfl))
  | 4, 10, _, _, _ => Or.inl (hh _ (List.mem_of_getElem? (i := 146) rfl))
  | 5, 0, _, _, _ => Or.inr (hh _ (List.mem_of_getElem? (i := 75) rfl))
  | 5, 1, _, _, _ => Or.inr (hh _ (List.mem_of_getElem? (i := 76) rfl))
  | 5, 2, _, _, _ => Or.inr (hh _ (List.mem_of_getElem? (i := 77) rfl))
  | 5, 3, _, _, _ => Or.inr (hh _ (List.mem_of_getElem? (i := 78) rfl))
  | 5, 4, _, _, _ => Or.inr (hh _ (List.mem_of_getElem? (i := 79) rfl))
  | 5, 5, _, _, h => absurd rfl h
  | 5, 6, _, _, _ => Or.inl (hh _ (List.mem_of_getElem? (i := 91) rfl))
  | 5, 7, _, _, _ => Or.inl (hh _ (List.mem_of_getElem? (i := 104) rfl))
  | 5, 8, _, _, _ => Or.inl (hh _ (List.mem_of_getElem? (i := 118) rfl))
  | 5, 9, _, _, _ => Or.inl (hh _ (List.mem_of_getElem? (i := 132) rfl))
  | 5, 10, _, _, _ => Or.inl (hh _ (List.mem_of_getElem? (i := 147) rfl))
  | 6, 0, _, _, _ => Or.inr (hh _ (List.mem_of_getElem? (i := 86) rfl))
  | 6, 1, _, _, _ => Or.inr (hh _ (List.mem_of_getElem? (i := 87) rfl))
  | 6, 2, _, _, _ => Or.inr (hh _ (List.mem_of_getElem? (i := 88) rfl))
  | 6, 3, _, _, _ => Or.inr (hh _ (List.mem_of_getElem? (i := 89) rfl))
  | 6, 4, _, _, _ => Or.inr (hh _ (List.mem_of_getElem? (i := 90) rfl))
  | 6, 5, _, _, _ => Or.inr (hh _ (List.mem_of_getElem? (i := 91) rfl))
  | 6, 6, _, _, h => absurd rfl h
  | 6, 7, _, _, _ => Or.inl (hh _ (List.mem_of_getElem? (i := 105) rfl))
  | 6, 8, _, _, _ => Or.inl (hh _ (List.mem_of_getElem? (i := 119) rfl))
  | 6, 9, _, _, _ => Or.inl (hh _ (List.mem_of_getElem? (i := 133) rfl))
  | 6, 10, _, _, _ => Or.inl (hh _ (List.mem_of_getElem? (i := 148) rfl))
  | 7, 0, _, _, _ => Or.inr (hh _ (List.mem_of_getElem? (i := 99) rfl))
  | 7, 1, _, _, _ => Or.inr (hh _ (List.mem_of_getElem? (i := 100) rfl))
  | 7, 2, _, _, _ => Or.inr (hh _ (List.mem_of_getElem? (i := 101) rfl))
  | 7, 3, _, _, _ => Or.inr (hh _ (List.mem_of_getElem? (i := 102) rfl))
  | 7, 4, _, _, _ => Or.inr (hh _ (List.mem_of_getElem? (i := 103) rfl))
  | 7, 5, _, _, _ => Or.inr (hh _ (List.mem_of_getElem? (i := 104) rfl))
  | 7, 6, _, _, _ => Or.inr (hh _ (List.mem_of_getElem? (i := 105) rfl))
  | 7, 7, _, _, h => absurd rfl h
  | 7, 8, _, _, _ => Or.inl (hh _ (List.mem_of_getElem? (i := 120) rfl))
  | 7, 9, _, _, _ => Or.inl (hh _ (List.mem_of_getElem? (i := 134) rfl))
  | 7, 10, _, _, _ => Or.inl (hh _ (List.mem_of_getElem? (i := 149) rfl))
  | 8, 0, _, _, _ => Or.inr (hh _ (List.mem_of_getElem? (i := 113) rfl))
  | 8, 1, _, _, _ => Or.inr (hh _ (List.mem_of_getElem? (i := 114) rfl))
  | 8, 2, _, _, _ => Or.inr (hh _ (List.mem_of_getElem? (i := 115) rfl))
  | 8, 3, _, _, _ => Or.inr (hh _ (List.mem_of_getElem? (i := 116) rfl))
  | 8, 4, _, _, _ => Or.inr (hh _ (List.mem_of_getElem? (i := 117) rfl))
  | 8, 5, _, _, _ => Or.inr (hh _ (List.mem_of_getElem? (i := 118) rfl))
  | 8, 6, _, _, _ => Or.inr (hh _ (List.mem_of_getElem? (i := 119) rfl))
  | 8, 7, _, _, _ => Or.inr (hh _ (List.mem_of_getElem? (i := 120) rfl))
  | 8, 8, _, _, h => absurd rfl h
  | 8, 9, _, _, _ => Or.inl (hh _ (List.mem_of_getElem? (i := 135) rfl))
  | 8, 10, _, _, _ => Or.inl (hh _ (List.mem_of_getElem? (i := 150) rfl))
  | 9, 0, _, _, _ => Or.inr (hh _ (List.mem_of_getElem? (i := 127) rfl))
  | 9, 1, _, _, _ => Or.inr (hh _ (List.mem_of_getElem? (i := 128) rfl))
  | 9, 2, _, _, _ => Or.inr (hh _ (List.mem_of_getElem? (i := 129) rfl))
  | 9, 3, _, _, _ => Or.inr (hh _ (List.mem_of_getElem? (i := 130) rfl))
  | 9, 4, _, _, _ => Or.inr (hh _ (List.mem_of_getElem? (i := 131) rfl))
  | 9, 5, _, _, _ => Or.inr (hh _ (List.mem_of_getElem? (i := 132) rfl))
  | 9, 6, _, _, _ => Or.inr (hh _ (List.mem_of_getElem? (i := 133) rfl))
  | 9, 7, _, _, _ => Or.inr (hh _ (List.mem_of_getElem? (i := 134) rfl))
  | 9, 8, _, _, _ => Or.inr (hh _ (List.mem_of_getElem? (i := 135) rfl))
  | 9, 9, _, _, h => absurd rfl h
  | 9, 10, _, _, _ => Or.inl (hh _ (List.mem_of_getElem? (i := 151) rfl))
  | 10, 0, _, _, _ => Or.inr (hh _ (List.mem_of_getElem? (i := 142) rfl))
  | 10, 1, _, _, _ => Or.inr (hh _ (List.mem_of_getElem? (i := 143) rfl))
  | 10, 2, _, _, _ => Or.inr (hh _ (List.mem_of_getElem? (i := 144) rfl))
  | 10, 3, _, _, _ => Or.inr (hh _ (List.mem_of_getElem? (i := 145) rfl))
  | 10, 4, _, _, _ => Or.inr (hh _ (List.mem_of_getElem? (i := 146) rfl))
  | 10, 5, _, _, _ => Or.inr (hh _ (List.mem_of_getElem? (i := 147) rfl))
  | 10, 6, _, _, _ => Or.inr (hh _ (List.mem_of_getElem? (i := 148) rfl))
  | 10, 7, _, _, _ => Or.inr (hh _ (List.mem_of_getElem? (i := 149) rfl))
  | 10, 8, _, _, _ => Or.inr (hh _ (List.mem_of_getElem? (i := 150) rfl))
  | 10, 9, _, _, _ => Or.inr (hh _ (List.mem_of_getElem? (i := 151) rfl))
  | 10, 10, _, _, h => absurd rfl h
  | i + 11, _, h, _, _ => absurd h (by omega)
  | _, j + 11, _, h, _ => absurd h (by omega)
theorem s_eqr {args : Array Value} {s : State} {t u : Term} {a : Nat} (h : (Cond.eq t u).before args s = true) (ht : t.eval args s none [] s = some (.ref a)) : u.eval args s none [] s = some (.ref a) := by
  refine va_eqv (t := u) (u := t) ?_ ht
  cases hu : u.eval args s none [] s with
  | none => simp [Cond.before, Cond.holds, Cond.value, ht, hu] at h
  | some w =>
    simp only [Cond.before, Cond.holds, Cond.value, ht, hu] at h ⊢
    cases w <;> simp_all
theorem s_lit {b : Nat} {s : State} {adK : Nat → Nat} (hh : s_all b s) (hw : ∀ w ∈ lw_tbl, w.before #[Value.ref b] s = true) (hv : ∀ i : Nat, i < 11 → (s_tm i).eval #[Value.ref b] s none [] s = some (.ref (adK i))) : ∀ q ∈ h_lits, vk_R q.1 q.2.1 q.2.2.1 (adK q.2.2.2) s := by
  refine List.forall_mem_cons.mpr ⟨?_, List.forall_mem_cons.mpr ⟨?_, List.forall_mem_cons.mpr ⟨?_, List.forall_mem_cons.mpr ⟨?_, List.forall_mem_cons.mpr ⟨?_, List.forall_mem_cons.mpr ⟨?_, List.forall_mem_cons.mpr ⟨?_, List.forall_mem_cons.mpr ⟨?_, List.forall_mem_cons.mpr ⟨?_, List.forall_mem_cons.mpr ⟨?_, List.forall_mem_cons.mpr ⟨?_, List.forall_mem_cons.mpr ⟨?_, List.forall_mem_cons.mpr ⟨?_, List.forall_mem_cons.mpr ⟨?_, List.forall_mem_cons.mpr ⟨?_, List.forall_mem_cons.mpr ⟨?_, List.forall_mem_cons.mpr ⟨?_, List.forall_mem_cons.mpr ⟨?_, List.forall_mem_cons.mpr ⟨?_, List.forall_mem_cons.mpr ⟨?_, List.forall_mem_cons.mpr ⟨?_, List.forall_mem_cons.mpr ⟨?_, fun _ h => absurd h List.not_mem_nil⟩⟩⟩⟩⟩⟩⟩⟩⟩⟩⟩⟩⟩⟩⟩⟩⟩⟩⟩⟩⟩⟩
  · exact vk_R.of (hw _ (ht_3 70 rfl)) (hv 0 (by decide))
  · exact vk_R.of (hw _ (ht_3 123 rfl)) (hv 1 (by decide))
  · exact vk_R.of (hw _ (ht_3 124 rfl)) (hv 2 (by decide))
  · exact vk_R.of (hw _ (ht_3 125 rfl)) (hv 3 (by decide))
  · exact vk_R.of (hw _ (ht_3 126 rfl)) (hv 4 (by decide))
  · exact vk_R.of (hw _ (ht_3 127 rfl)) (hv 5 (by decide))
  · exact vk_R.of (hw _ (ht_3 128 rfl)) (hv 6 (by decide))
  · exact vk_R.of (hw _ (ht_3 129 rfl)) (hv 7 (by decide))
  · exact vk_R.of (hw _ (ht_3 130 rfl)) (hv 8 (by decide))
  · exact vk_R.of (hw _ (ht_3 131 rfl)) (hv 9 (by decide))
  · exact vk_R.of (hw _ (ht_3 132 rfl)) (hv 10 (by decide))
  · exact vk_R.of (hw _ (ht_7 124 rfl)) (s_eqr (hh _ (List.mem_of_getElem? (i := 157) rfl)) (hv 0 (by decide)))
  · exact vk_R.of (hw _ (ht_7 155 rfl)) (s_eqr (hh _ (List.mem_of_getElem? (i := 174) rfl)) (hv 1 (by decide)))
  · exact vk_R.of (hw _ (ht_7 156 rfl)) (s_eqr (hh _ (List.mem_of_getElem? (i := 196) rfl)) (hv 2 (by decide)))
  · exact vk_R.of (hw _ (ht_7 177 rfl)) (s_eqr (hh _ (List.mem_of_getElem? (i := 222) rfl)) (hv 8 (by decide)))
  · exact vk_R.of (hw _ (ht_7 178 rfl)) (s_eqr (hh _ (List.mem_of_getElem? (i := 243) rfl)) (hv 9 (by decide)))
  · exact vk_R.of (hw _ (ht_7 191 rfl)) (s_eqr (hh _ (List.mem_of_getElem? (i := 259) rfl)) (hv 3 (by decide)))
  · exact vk_R.of (hw _ (ht_7 192 rfl)) (s_eqr (hh _ (List.mem_of_getElem? (i := 284) rfl)) (hv 4 (by decide)))
  · exact vk_R.of (hw _ (ht_7 193 rfl)) (s_eqr (hh _ (List.mem_of_getElem? (i := 310) rfl)) (hv 5 (by decide)))
  · exact vk_R.of (hw _ (ht_7 194 rfl)) (s_eqr (hh _ (List.mem_of_getElem? (i := 335) rfl)) (hv 6 (by decide)))
  · exact vk_R.of (hw _ (ht_7 195 rfl)) (s_eqr (hh _ (List.mem_of_getElem? (i := 362) rfl)) (hv 7 (by decide)))
  · exact vk_R.of (hw _ (ht_7 213 rfl)) (s_eqr (hh _ (List.mem_of_getElem? (i := 391) rfl)) (hv 10 (by decide)))
theorem vk_S_congr {N : Nat} {len : List Nat} {byt : List (List Int32)} {k v k' v' : Nat → Nat} {A : Nat → Prop} {U : State} {H : Heap} (hk : ∀ i, i < N → k' i = k i) (hv : ∀ i, i < N → v' i = v i) (h : vk_S N len byt k v A U H) : vk_S N len byt k' v' A U H := by
  refine ⟨fun i hi => ?_, fun i j hi hj hij => h.2 i j hi hj ?_⟩
  · rw [hk i hi, hv i hi]
    exact h.1 i hi
  · rw [← hk i hi, ← hk j hj]
    exact hij
theorem s_E {b : Nat} {s : State} (hh : s_all b s) (hw : ∀ w ∈ lw_tbl, w.before #[Value.ref b] s = true) : ∃ ext : Nat → Nat, ∀ (n : Nat) (α : Nat → Nat), (∀ i, i < 23 → α (n + i) = ext i) → h_E n α (w_A s) s s.heap := by
  have hts : ∀ w ∈ h_T, w.before #[Value.ref b] s = true := fun w h => hw w (List.mem_filter.mp h).1
  have hA : ∀ a : Nat, a < s.heap.size → ¬ w_A s a := fun a h => Nat.not_le.mpr h
  obtain ⟨adK, adV, hS, hv⟩ := vk_Sof (tm := s_tm) (len := h_len) (byt := h_byt) (A := w_A s) (by decide) (s_ex hh) (s_co hh) (s_ar hh) (s_le hh) (s_el hh) (s_ne hh) hA
  have hlit := s_lit hh hw hv
  have hcs : va_Z "java/lang/String" "COMPACT_STRINGS" "Z" (.int 1) (w_A s) s s.heap := va_Zof (hw _ (ht_3 84 rfl)) (hw _ (ht_1 13 rfl)) (va_eqi (hh _ (List.mem_of_getElem? (i := 4) rfl))) hA
  have hfm : va_Zq "jdk/internal/util/Preconditions" "SIOOBE_FORMATTER" "Ljava/util/function/BiFunction;" (w_A s) s s.heap := va_Zqof (hw _ (ht_3 100 rfl)) (hw _ (ht_1 15 rfl)) (hh _ (List.mem_of_getElem? (i := 5) rfl)) hA
  have hNw : h_Nw s := fun w h => by
    obtain ⟨h1, h2⟩ := List.mem_filter.mp h
    cases w <;> first | exact va_Nw.of rfl (hw _ h1) | (simp [h_nest] at h2)
  obtain ⟨fm, hfm⟩ : ∃ fm : Nat, va_Z "jdk/internal/util/Preconditions" "SIOOBE_FORMATTER" "Ljava/util/function/BiFunction;" .null (w_A s) s s.heap ∨ va_Z "jdk/internal/util/Preconditions" "SIOOBE_FORMATTER" "Ljava/util/function/BiFunction;" (.ref fm) (w_A s) s s.heap := by
    rcases hfm with h | ⟨t, h⟩
    · exact ⟨0, Or.inl h⟩
    · exact ⟨t, Or.inr h⟩
  refine ⟨fun i => if i < 11 then adK i else if i < 22 then adV (i - 11) else fm, fun n α ha => ?_⟩
  have e1 : ∀ i, i < 11 → α (n + i) = adK i := fun i hi => (ha i (by omega)).trans (if_pos hi)
  have e2 : ∀ i, i < 11 → α (n + 11 + i) = adV i := fun i hi => by
    have h := ha (11 + i) (by omega)
    rw [← Nat.add_assoc] at h
    refine h.trans ?_
    show (if 11 + i < 11 then adK (11 + i) else if 11 + i < 22 then adV (11 + i - 11) else fm) = adV i
    rw [if_neg (by omega), if_pos (by omega), Nat.add_sub_cancel_left]
  have e3 : α (n + 22) = fm := by rw [ha 22 (by omega)]; rfl
  refine ⟨hNw, vk_S_congr e1 e2 hS, fun q hq => ?_, hcs, ?_⟩
  · have hb : q.2.2.2 < 11 := (show ∀ q ∈ h_lits, q.2.2.2 < 11 by decide +kernel) q hq
    rw [e1 _ hb]
    exact hlit q hq
  · unfold h_Zf
    rw [e3]
    exact hfm
theorem s_xE {b : Nat} {s : State} (hh : s_all b s) (hw : ∀ w ∈ lw_tbl, w.before #[Value.ref b] s = true) : x_E (w_A s) s s.heap := by
  have hts : ∀ w ∈ h_T, w.before #[Value.ref b] s = true := fun w h => hw w (List.mem_filter.mp h).1
  have hA : ∀ a : Nat, a < s.heap.size → ¬ w_A s a := fun a h => Nat.not_le.mpr h
  refine ⟨fun w h => ?_, vx_Zqof (hw _ (ht_5 227 rfl)) (hw _ (ht_1 18 rfl)) (hh _ (List.mem_of_getElem? (i := 9) rfl)) hA, vx_Zqof (hw _ (ht_5 229 rfl)) (hw _ (ht_1 18 rfl)) (hh _ (List.mem_of_getElem? (i := 10) rfl)) hA⟩
  obtain ⟨h1, h2⟩ := List.mem_filter.mp h
  cases w <;> first | exact va_Nw.of rfl (hw _ h1) | (simp [x_nw] at h2)
theorem s_arr {s : State} {args : Array Value} {ty : FieldType} (hno : ∀ C, ty ≠ .object C) (h : (Cond.arrayClass ty).before args s = true) : ∃ c, ArrOfT s c ty ∧ va_RA s c ty := by
  obtain ⟨c, k, comp, h1, h2, h3⟩ := Cond.arrayClass_spec h
  refine ⟨c, fun n z => ⟨fun k h => (by cases h), k, h2, comp, h3⟩, ?_⟩
  cases ty <;> first | exact h1 | exact absurd rfl (hno _)
theorem s_K {s : State} {args : Array Value} (hw : ∀ w ∈ lw_tbl, w.before args s = true) : ∃ (D : va_G) (cy : Nat → ClassId), va_K D vwCl (hTys cy) s := by
  have hts : ∀ w ∈ h_T, w.before args s = true := fun w h => hw w (List.mem_filter.mp h).1
  have hk : ∀ k : Nat, ∃ (cC : ClassId) (iS : Nat → Nat), ∀ q : vw_C, vwCl[k]? = some q → u_Kn s q.1 q.2.1 q.2.2 cC iS := by
    intro k
    match k with
    | 0 =>
      obtain ⟨c, i, h⟩ := u_known hts hK_0.2.1 (hts _ it_0)
      exact ⟨c, i, fun q hq => by cases hq; exact h⟩
    | 1 =>
      obtain ⟨c, i, h⟩ := u_known hts hK_1.2.1 (hts _ it_1)
      exact ⟨c, i, fun q hq => by cases hq; exact h⟩
    | 2 =>
      obtain ⟨c, i, h⟩ := u_known hts hK_2.2.1 (hts _ it_2)
      exact ⟨c, i, fun q hq => by cases hq; exact h⟩
    | 3 =>
      obtain ⟨c, i, h⟩ := u_known hts hK_3.2.1 (hts _ it_3)
      exact ⟨c, i, fun q hq => by cases hq; exact h⟩
    | 4 =>
      obtain ⟨c, i, h⟩ := u_known hts hK_4.2.1 (hts _ it_4)
      exact ⟨c, i, fun q hq => by cases hq; exact h⟩
    | 5 =>
      obtain ⟨c, i, h⟩ := u_known hts hK_5.2.1 (hts _ it_5)
      exact ⟨c, i, fun q hq => by cases hq; exact h⟩
    | 6 =>
      obtain ⟨c, i, h⟩ := u_known hts hK_6.2.1 (hts _ it_6)
      exact ⟨c, i, fun q hq => by cases hq; exact h⟩
    | 7 =>
      obtain ⟨c, i, h⟩ := u_known hts hK_7.2.1 (hts _ it_7)
      exact ⟨c, i, fun q hq => by cases hq; exact h⟩
    | 8 =>
      obtain ⟨c, i, h⟩ := u_known hts hK_8.2.1 (hts _ it_8)
      exact ⟨c, i, fun q hq => by cases hq; exact h⟩
    | 9 =>
      obtain ⟨c, i, h⟩ := u_known hts hK_9.2.1 (hts _ it_9)
      exact ⟨c, i, fun q hq => by cases hq; exact h⟩
    | 10 =>
      obtain ⟨c, i, h⟩ := u_known hts hK_10.2.1 (hts _ it_10)
      exact ⟨c, i, fun q hq => by cases hq; exact h⟩
    | 11 =>
      obtain ⟨c, i, h⟩ := u_known hts hK_11.2.1 (hts _ it_11)
      exact ⟨c, i, fun q hq => by cases hq; exact h⟩
    | k + 12 => exact ⟨0, fun _ => 0, fun q hq => absurd hq (by simp)⟩
  obtain ⟨c0, a0, b0⟩ := s_arr (by intro C h; cases h) (hts _ ac_int)
  obtain ⟨c1, a1, b1⟩ := s_arr (by intro C h; cases h) (hts _ ac_long)
  obtain ⟨c2, a2, b2⟩ := s_arr (by intro C h; cases h) (hts _ ac_boolean)
  obtain ⟨p3, c3, k3, h31, h32, h33, h34, h35⟩ := Cond.arrayOver_spec (hw _ (ht_2 93 rfl))
  obtain ⟨p4, c4, k4, h41, h42, h43, h44, h45⟩ := arrayOverA_spec (hw _ (ht_1 186 rfl))
  refine ⟨(fun k => Classical.choose (hk k), fun k => Classical.choose (Classical.choose_spec (hk k))), fun k => match k with | 0 => c0 | 1 => c1 | 2 => c2 | 3 => c3 | _ => c4, fun k q hq => Classical.choose_spec (Classical.choose_spec (hk k)) q hq, fun k q hq => ?_⟩
  match k with
  | 0 => cases hq; exact ⟨a0, b0⟩
  | 1 => cases hq; exact ⟨a1, b1⟩
  | 2 => cases hq; exact ⟨a2, b2⟩
  | 3 => cases hq; exact ⟨fun n z => ⟨fun k h => (by cases h), k3, h33, p3, h34⟩, k3, p3, h33, h34, h31, h35⟩
  | 4 => cases hq; exact ⟨fun n z => ⟨fun k h => (by cases h), k4, h43, p4, h44⟩, h45⟩
  | k + 5 => exact absurd hq (by simp [hTys])
