/-! bind: the masks; how many plans are told. -/
theorem bd_and : ∀ b0, b0 < 3 → ∀ b1, b1 < 3 → ∀ b2, b2 < 3 → ∀ k, k < 3 → (nI (bmk b0 b1 b2) &&& ((nI 1 <<< (nI k &&& nI 31)) ^^^ (-1 : Int32))) = nI (bmk (if k = 0 then 0 else b0) (if k = 1 then 0 else b1) (if k = 2 then 0 else b2)) := by decide +kernel
theorem bd_or : ∀ b0, b0 < 3 → ∀ b1, b1 < 3 → ∀ b2, b2 < 3 → ∀ k, k < 3 → ∀ b, b < 2 → (nI (bmk b0 b1 b2) ||| (nI 1 <<< (nI k &&& nI 31))) = nI (bmk (if k = 0 then b + 1 else b0) (if k = 1 then b + 1 else b1) (if k = 2 then b + 1 else b2)) := by decide +kernel
theorem bt_and : ∀ b0, b0 < 3 → ∀ b1, b1 < 3 → ∀ b2, b2 < 3 → ∀ k, k < 3 → ∀ b, b < 2 → (nI (bto b0 b1 b2) &&& ((nI 1 <<< (nI k &&& nI 31)) ^^^ (-1 : Int32))) = nI (bto (if k = 0 then b else b0) (if k = 1 then b else b1) (if k = 2 then b else b2)) := by decide +kernel
theorem bt_or : ∀ b0, b0 < 3 → ∀ b1, b1 < 3 → ∀ b2, b2 < 3 → ∀ k, k < 3 → (nI (bto b0 b1 b2) ||| (nI 1 <<< (nI k &&& nI 31))) = nI (bto (if k = 0 then 2 else b0) (if k = 1 then 2 else b1) (if k = 2 then 2 else b2)) := by decide +kernel
theorem bd_val : bdI 0 = (-1 : Int32) ∧ bdI 1 = nI 0 ∧ bdI 2 = nI 1 := ⟨rfl, rfl, rfl⟩
