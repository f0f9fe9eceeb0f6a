theorem wL_1 : Cond.codeWith yL_choice cL_choice 6 (some .int) [(0, 12, 15, 13)] ∈ h_T := hs_5 194 rfl rfl
theorem wL_2 : Cond.methodLink RL 51 yL_choice ∈ h_T := hs_5 192 rfl rfl
theorem wL_3 : Cond.static yL_choice ∈ h_T := hs_5 193 rfl rfl
theorem wL_4 : Cond.initialized RL ∈ h_T := hs_1 0 rfl rfl
