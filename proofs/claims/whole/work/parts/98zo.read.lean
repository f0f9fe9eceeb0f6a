/-! Both readers stand at the same part, or both have found the same fault. -/
def tkP (T : Nat → Nat) (N n p e : Nat) (Ic Im : hI) : Prop := tpC T N Ic ∧ tpM T N Im ∧ (n ≤ N ∧ tkS T N n = N ∧ tkC T N n Ic ∧ Ic 3 n = nI 0 ∧ Ic 4 n = nI N ∧ Ic 1 5 = nI n) ∧ p ≤ n ∧ Ic 1 6 = nI p ∧ ((e = 0 ∧ Ic 1 7 = nI (tkK T N p) ∧ Ic 1 8 = (-1 : Int32) ∧ Im 0 5 = (-1 : Int32) ∧ atM T N p Im) ∨ ((1 ≤ e ∧ e ≤ 501) ∧ Ic 1 7 = (-1 : Int32) ∧ Ic 1 8 = nI (e - 1) ∧ Im 0 5 = nI (e - 1)))
def frC (Ic Ic' : hI) : Prop := ∀ c i, (c ≠ 1 ∨ i < 6 ∨ 8 < i) → Ic' c i = Ic c i
def frMm (Im Im' : hI) : Prop := ∀ c i, (c ≠ 0 ∨ i < 3 ∨ 7 < i) → Im' c i = Im c i
theorem frC_id (I : hI) : frC I I := fun _ _ _ => rfl
theorem frMm_id (I : hI) : frMm I I := fun _ _ _ => rfl
theorem frC_tr {I I' I'' : hI} (h1 : frC I I') (h2 : frC I' I'') : frC I I'' := fun c i q => by rw [h2 c i q, h1 c i q]
theorem frMm_tr {I I' I'' : hI} (h1 : frMm I I') (h2 : frMm I' I'') : frMm I I'' := fun c i q => by rw [h2 c i q, h1 c i q]
theorem hu_id {β : Type} (f : Nat → Nat → β) (a i : Nat) : h_u f a i (f a i) = f := by
  funext b j
  unfold h_u
  by_cases e : b = a
  · rw [if_pos e]
    by_cases e2 : j = i
    · rw [if_pos e2, e, e2]
    · rw [if_neg e2]
  · rw [if_neg e]
theorem pr1 {β : Type} (x : β) : ¬ ((nI 1, x) : Int32 × β).1 = (0 : Int32) := (show ¬ nI 1 = (0 : Int32) by decide)
theorem pr0 {β : Type} (x : β) : ((nI 0, x) : Int32 × β).1 = (0 : Int32) := rfl
section Rb
variable {T : Nat → Nat} {N n p e : Nat} {Ic Im : hI}
theorem tkP_of {Ic' Im' : hI} (h : tkP T N n p e Ic Im) (h1 : ∀ i, i ≤ 8 → Ic' 1 i = Ic 1 i) (h2 : ∀ c i, 2 ≤ c → c ≤ 5 → Ic' c i = Ic c i) (h3 : ∀ i, 2 ≤ i → i ≤ 7 → Im' 0 i = Im 0 i) (h4 : ∀ i, Im' 1 i = Im 1 i) : tkP T N n p e Ic' Im' := by
  obtain ⟨a1, a2, ⟨b1, b2, b3, b4, b5, b6⟩, a4, a5, a6⟩ := h
  refine ⟨tpC_of a1 (h1 1 (by omega)) (fun i => h2 2 i (by omega) (by omega)), tpM_of a2 (h3 2 (by omega) (by omega)) h4, ⟨b1, b2, fun j hj => ?_, by rw [h2 3 n (by omega) (by omega)]; exact b4, by rw [h2 4 n (by omega) (by omega)]; exact b5, by rw [h1 5 (by omega)]; exact b6⟩, a4, by rw [h1 6 (by omega)]; exact a5, ?_⟩
  · obtain ⟨g1, g2, g3, g4⟩ := b3 j hj
    exact ⟨g1, by rw [h2 3 j (by omega) (by omega)]; exact g2, by rw [h2 4 j (by omega) (by omega)]; exact g3, fun q => by rw [h2 5 j (by omega) (by omega)]; exact g4 q⟩
  · rcases a6 with ⟨c0, c1, c2, c3, c4, c5, c6, c7⟩ | ⟨c0, c1, c2, c3⟩
    · exact Or.inl ⟨c0, by rw [h1 7 (by omega)]; exact c1, by rw [h1 8 (by omega)]; exact c2, by rw [h3 5 (by omega) (by omega)]; exact c3, by rw [h3 3 (by omega) (by omega)]; exact c4, by rw [h3 4 (by omega) (by omega)]; exact c5, by rw [h3 6 (by omega) (by omega)]; exact c6, fun q => by rw [h3 7 (by omega) (by omega)]; exact c7 q⟩
    · exact Or.inr ⟨c0, by rw [h1 7 (by omega)]; exact c1, by rw [h1 8 (by omega)]; exact c2, by rw [h3 5 (by omega) (by omega)]; exact c3⟩
theorem tk_n (h : tkP T N n p e Ic Im) : n ≤ 500 := by
  have := h.1.1
  have := h.2.2.1.1
  omega
theorem tk_kd (h : tkP T N n p e Ic Im) : tkK T N p < 269 ∧ (tkK T N p ≠ 0 → p < n) := by
  have hb := kdF_bd (T := T) (N := N) (s := tkS T N p) (z := tkA T N (p + 1)) h.1.2.2.2
  refine ⟨hb.1, fun q => ?_⟩
  by_cases c : p < n
  · exact c
  · have e : p = n := by have := h.2.2.2.1; omega
    exfalso
    apply q
    exact hb.2.mpr (by rw [e]; exact Nat.le_of_eq h.2.2.1.2.1.symm)
theorem kd_is (h : tkP T N n p e Ic Im) {v : Nat} (hv : v < 2 ^ 31) : (Ic 1 7 = nI v) ↔ (e = 0 ∧ tkK T N p = v) := by
  have hk := (tk_kd h).1
  rcases h.2.2.2.2.2 with ⟨c0, c1, _⟩ | ⟨c0, c1, _⟩
  · rw [c1, nI_eq (by omega) hv]
    exact ⟨fun q => ⟨c0, q⟩, fun q => q.2⟩
  · rw [c1]
    exact ⟨fun q => absurd q.symm (nI_nem1 hv), fun q => by omega⟩
theorem kd_isL (h : tkP T N n p e Ic Im) {v : Nat} {x : Int32} (hx : x = nI v) (hv : v < 2 ^ 31) : (Ic 1 7 = x) ↔ (e = 0 ∧ tkK T N p = v) := by rw [hx]; exact kd_is h hv
theorem kd_m1 (h : tkP T N n p e Ic Im) : (Ic 1 7 = (-1 : Int32)) ↔ 1 ≤ e := by
  have hk := (tk_kd h).1
  rcases h.2.2.2.2.2 with ⟨c0, c1, _⟩ | ⟨c0, c1, _⟩
  · rw [c1]
    exact ⟨fun q => absurd q (nI_nem1 (by omega)), fun q => by omega⟩
  · rw [c1]
    exact ⟨fun _ => c0.1, fun _ => rfl⟩
theorem wr_m1 (h : tkP T N n p e Ic Im) : (Im 0 5 = (-1 : Int32)) ↔ e = 0 := by
  rcases h.2.2.2.2.2 with ⟨c0, _, _, c3, _⟩ | ⟨c0, _, _, c3⟩
  · rw [c3]
    exact ⟨fun _ => c0, fun _ => rfl⟩
  · rw [c3]
    exact ⟨fun q => absurd q (nI_nem1 (by omega)), fun q => by omega⟩
theorem next_both (h : tkP T N n p 0 Ic Im) (hp : p < n) : ∃ Ic' Im' : hI, mRd_next Ic = some Ic' ∧ mM_next Im = some Im' ∧ tkP T N n (p + 1) 0 Ic' Im' ∧ frC Ic Ic' ∧ frMm Im Im' := by
  have hn := tk_n h
  have hk := (tk_kd h).1
  obtain ⟨a1, a2, ⟨b1, b2, b3, b4, b5, b6⟩, a4, a5, a6⟩ := h
  rcases a6 with ⟨c0, c1, c2, c3, c4⟩ | ⟨c0, _⟩
  · obtain ⟨Im', m1, m2, m3⟩ := m_next a2 c4.1
    obtain ⟨I1, hI1⟩ : ∃ J, J = h_u Ic 1 6 (nI (p + 1)) := ⟨_, rfl⟩
    have e3 : I1 3 (p + 1) = nI (tkK T N (p + 1)) := by
      rw [hI1, hu_fr (by omega)]
      by_cases c : p + 1 < n
      · exact (b3 (p + 1) c).2.1
      · have e : p + 1 = n := by omega
        have ek : tkK T N (p + 1) = 0 := by unfold tkK kdF; rw [e, b2, if_neg (by omega)]
        rw [ek, e]; exact b4
    have fC : ∀ c i, (c ≠ 1 ∨ (i ≠ 6 ∧ i ≠ 7)) → h_u I1 1 7 (nI (tkK T N (p + 1))) c i = Ic c i := fun c i q => by rw [hu_fr (by omega), hI1, hu_fr (by omega)]
    refine ⟨h_u I1 1 7 (nI (tkK T N (p + 1))), Im', ?_, m1, ⟨tpC_of a1 (fC 1 1 (by omega)) (fun i => fC 2 i (by omega)), tpM_of a2 (m3 0 2 (by omega)) (fun i => m3 1 i (by omega)), ⟨b1, b2, fun j hj => ?_, by rw [fC 3 n (by omega)]; exact b4, by rw [fC 4 n (by omega)]; exact b5, by rw [fC 1 5 (by omega)]; exact b6⟩, by omega, by rw [hu_fr (by omega), hI1, h_u_at], Or.inl ⟨rfl, h_u_at _ _ _ _, by rw [fC 1 8 (by omega)]; exact c2, by rw [m3 0 5 (by omega)]; exact c3, m2⟩⟩, fun c i q => fC c i (by omega), fun c i q => m3 c i (by omega)⟩
    · have e6 : I1 1 6 = nI (p + 1) := by rw [hI1, h_u_at]
      unfold mRd_next
      rw [c1, if_neg (nI_nem1 (by omega)), b6, a5, if_neg (fun q => by have := (nI_leI (by omega) (by omega)).mp q; omega), li_1, nI_add, ← hI1, hl_eq, e6, hg_in _ (by omega) (by omega), nI_clamp (by omega), e3, hl_eq]
    · obtain ⟨g1, g2, g3, g4⟩ := b3 j hj
      exact ⟨g1, by rw [fC 3 j (by omega)]; exact g2, by rw [fC 4 j (by omega)]; exact g3, fun q => by rw [fC 5 j (by omega)]; exact g4 q⟩
  · omega
theorem fail_c (h : Ic 1 7 = (-1 : Int32)) : mRd_fail Ic = some Ic := by
  unfold mRd_fail
  rw [if_pos h]
theorem bad_m (h : tkP T N n p e Ic Im) (he : 1 ≤ e) : mM_bad Im = Im := by
  have hw := wr_m1 h
  unfold mM_bad mM_bad_20
  rw [if_neg (fun q => by have := hw.mp q; omega), hl_eq, hu_id]
theorem fail_both (h : tkP T N n p e Ic Im) : ∃ (Ic' : hI) (e' : Nat), mRd_fail Ic = some Ic' ∧ tkP T N n p e' Ic' (mM_bad Im) ∧ 1 ≤ e' ∧ frC Ic Ic' ∧ frMm Im (mM_bad Im) := by
  have hn := tk_n h
  have hk := (tk_kd h).1
  by_cases he : 1 ≤ e
  · exact ⟨Ic, e, fail_c ((kd_m1 h).mpr he), by rw [bad_m h he]; exact h, he, frC_id _, by rw [bad_m h he]; exact frMm_id _⟩
  · obtain ⟨a1, a2, ⟨b1, b2, b3, b4, b5, b6⟩, a4, a5, a6⟩ := h
    rcases a6 with ⟨c0, c1, c2, c3, c4⟩ | ⟨c0, _⟩
    · have hS := (tkS_le T N p).2
      have hN := a1.1
      have e4 : Ic 4 p = nI (tkS T N p) := by
        by_cases c : p < n
        · exact (b3 p c).2.2.1
        · have e : p = n := by omega
          rw [e, b2]; exact b5
      have fC : ∀ c i, (c ≠ 1 ∨ (i ≠ 7 ∧ i ≠ 8)) → h_u (h_u Ic 1 8 (nI (tkS T N p))) 1 7 (-1 : Int32) c i = Ic c i := fun c i q => by rw [hu_fr (by omega), hu_fr (by omega)]
      have eM : mM_bad Im = h_u Im 0 5 (nI (tkS T N p)) := by
        unfold mM_bad mM_bad_20
        rw [if_pos c3, hl_eq, c4.2.1]
      rw [eM]
      refine ⟨h_u (h_u Ic 1 8 (nI (tkS T N p))) 1 7 (-1 : Int32), tkS T N p + 1, ?_, ⟨tpC_of a1 (fC 1 1 (by omega)) (fun i => fC 2 i (by omega)), tpM_of a2 (hu_fr (by omega)) (fun i => hu_fr (by omega)), ⟨b1, b2, fun j hj => ?_, by rw [fC 3 n (by omega)]; exact b4, by rw [fC 4 n (by omega)]; exact b5, by rw [fC 1 5 (by omega)]; exact b6⟩, a4, by rw [fC 1 6 (by omega)]; exact a5, Or.inr ⟨by omega, h_u_at _ _ _ _, ?_, ?_⟩⟩, by omega, fun c i q => fC c i (by omega), fun c i q => hu_fr (by omega)⟩
      · unfold mRd_fail
        rw [c1, if_neg (nI_nem1 (by omega)), a5, hg_in _ (by omega) (by omega), nI_clamp (by omega), e4, hl_eq, hl_eq]
      · obtain ⟨g1, g2, g3, g4⟩ := b3 j hj
        exact ⟨g1, by rw [fC 3 j (by omega)]; exact g2, by rw [fC 4 j (by omega)]; exact g3, fun q => by rw [fC 5 j (by omega)]; exact g4 q⟩
      · rw [hu_fr (by omega), h_u_at]
        rfl
      · rw [h_u_at]
        rfl
    · omega
theorem iw_0 (j i fuel : Nat) : mM_isWord_L40 (fuel + 1) j (nI 0) (nI i) Im = some (nI 0) := by
  show mM_isWord_B40 (mM_isWord_L40 fuel) _ _ _ _ = _
  unfold mM_isWord_B40
  rw [if_pos (show nI 0 = (0 : Int32) from rfl), hg_z0]
theorem iw_L (h : tpM T N Im) {s j : Nat} (hj : j < 11) (hz : s + wl j ≤ N) (h4 : Im 0 4 = nI s) : ∀ (r i fuel : Nat), i + r = wl j → r + 1 < fuel → mM_isWord_L40 fuel j (nI 1) (nI i) Im = some (bI (spF T s j r i)) := by
  have hw := wl_le j hj
  have hN := h.1
  intro r
  induction r with
  | zero =>
    intro i fuel hi hf
    obtain ⟨fuel, rfl⟩ : ∃ m, fuel = m + 1 := ⟨fuel - 1, by omega⟩
    show mM_isWord_B40 (mM_isWord_L40 fuel) _ _ _ _ = _
    unfold mM_isWord_B40
    rw [if_neg (show ¬ nI 1 = (0 : Int32) by decide), sl_w, if_pos ((nI_leI (by omega) (by omega)).mpr (by omega)), hg_z1, spF]
    rfl
  | succ r ih =>
    intro i fuel hi hf
    obtain ⟨fuel, rfl⟩ : ∃ m, fuel = m + 1 := ⟨fuel - 1, by omega⟩
    have hT := h.2.2.2 (s + i) (by omega)
    have hwb := wb_lt j hj i (by omega)
    have hg : i < h_len.getD j 0 := (show i < wl j by omega)
    have hg2 : h_len.getD j 0 < 2 ^ 31 := (show wl j < 2 ^ 31 by omega)
    show mM_isWord_B40 (mM_isWord_L40 fuel) _ _ _ _ = _
    unfold mM_isWord_B40
    rw [if_neg (show ¬ nI 1 = (0 : Int32) by decide), sl_w, if_neg (fun q => by have := (nI_leI (by omega) (by omega)).mp q; omega), h4, nI_add, hg_in _ (by omega) (by omega), hg_in _ hg hg2, nI_clamp (by omega), h.2.2.1 (s + i) (by omega), sc_w j hj i (by omega), li_0, li_1, nI_add]
    by_cases c : T (s + i) = wb j i
    · rw [if_pos (by rw [c]), ih (i + 1) fuel (by omega) (by omega), spF, if_pos c]
    · obtain ⟨fuel, rfl⟩ : ∃ m, fuel = m + 1 := ⟨fuel - 1, by omega⟩
      rw [if_neg (fun q => c ((nI_eq (by omega) (by omega)).mp q)), iw_0, spF, if_neg c]
      rfl
theorem m_isWord (h : tkP T N n p e Ic Im) {j : Nat} (hj : j < 11) : mM_isWord j Im = some (bI (decide (e = 0 ∧ tkK T N p = 258 + j))) := by
  have hw := wl_le j hj
  have hn := tk_n h
  have hkd := tk_kd h
  have hN := h.1.1
  unfold mM_isWord
  have f0 : mM_isWord_L40 hF j (0 : Int32) (0 : Int32) Im = some (nI 0) := iw_0 j 0 999
  by_cases he : e = 0
  · rw [if_pos ((wr_m1 h).mpr he)]
    obtain ⟨a1, a2, a3, a4, a5, a6⟩ := h
    rcases a6 with ⟨c0, c1, c2, c3, c4⟩ | ⟨c0, _⟩
    · have hS := tkS_le T N p
      have hA := tkA_le T N (p + 1)
      by_cases hp : 257 ≤ tkK T N p
      · have e6 : Im 0 6 = (1 : Int32) := by
          rw [c4.2.2.1]
          unfold ptK
          rw [if_neg (by omega), if_neg (by omega), if_neg (by omega)]
          rfl
        have hlt : tkS T N p < N := by
          have hb := kdF_bd (T := T) (N := N) (s := tkS T N p) (z := tkA T N (p + 1)) a1.2.2.2
          by_cases q : tkS T N p < N
          · exact q
          · have : tkK T N p = 0 := hb.2.mpr (by omega)
            omega
        have hlt2 := tkA_lt hlt
        have hT := a1.2.2.2 _ hlt
        have eK : tkK T N p = wkN T (tkS T N p) (tkA T N (p + 1)) := by
          have e1 : tkK T N p = kdF T N (tkS T N p) (tkA T N (p + 1)) := rfl
          rw [e1] at hp ⊢
          unfold kdF at hp ⊢
          rw [if_pos hlt] at hp ⊢
          by_cases q : isL (T (tkS T N p)) = true
          · rw [if_pos q]
          · rw [if_neg q] at hp
            exfalso
            by_cases q2 : isD (T (tkS T N p)) = true
            · rw [if_pos q2] at hp; omega
            · rw [if_neg q2] at hp; omega
        have hwk := wkN_is (T := T) (s := tkS T N p) (z := tkA T N (p + 1)) hj
        rw [← eK] at hwk
        have ed : decide (e = 0 ∧ tkK T N p = 258 + j) = spl T (tkS T N p) (tkA T N (p + 1)) j := by
          cases q : spl T (tkS T N p) (tkA T N (p + 1)) j
          · exact decide_eq_false (fun w => by have := hwk.mp w.2; rw [q] at this; cases this)
          · exact decide_eq_true ⟨he, hwk.mpr q⟩
        rw [if_pos e6, c4.1, c4.2.1, nI_subN (by omega), sl_w, ed]
        unfold spl
        by_cases c : tkA T N (p + 1) - tkS T N p = wl j
        · rw [if_pos (by rw [c]), li_0, li_1, iw_L a2 hj (by omega) c4.2.1 (wl j) 0 hF (by omega) (by unfold hF; omega), decide_eq_true c, Bool.true_and]
        · rw [if_neg (fun q => c ((nI_eq (by omega) (by omega)).mp q)), decide_eq_false c, Bool.false_and, f0]
          rfl
      · have e6 : ¬ Im 0 6 = (1 : Int32) := by
          rw [c4.2.2.1]
          intro q
          have q2 := (nI_eq (a := ptK (tkK T N p)) (b := 1) (by unfold ptK; split <;> (try split) <;> (try split) <;> omega) (by omega)).mp q
          unfold ptK at q2
          by_cases w1 : tkK T N p = 0
          · rw [if_pos w1] at q2; omega
          · rw [if_neg w1] at q2
            by_cases w2 : tkK T N p < 256
            · rw [if_pos w2] at q2; omega
            · rw [if_neg w2, if_pos (by omega)] at q2; omega
        rw [if_neg e6, f0, decide_eq_false (by omega)]
        rfl
    · omega
  · rw [if_neg (fun q => he ((wr_m1 h).mp q)), f0, decide_eq_false (fun q => he q.1)]
    rfl
theorem m_isSign (h : tkP T N n p e Ic Im) {c : Nat} (hc : 1 ≤ c ∧ c ≤ 255) : mM_isSign (nI c) Im = some (bI (decide (e = 0 ∧ tkK T N p = c))) := by
  have hn := tk_n h
  have hN := h.1.1
  have hkd := tk_kd h
  unfold mM_isSign
  by_cases he : e = 0
  · rw [if_pos ((wr_m1 h).mpr he)]
    obtain ⟨a1, a2, a3, a4, a5, a6⟩ := h
    rcases a6 with ⟨c0, c1, c2, c3, c4⟩ | ⟨c0, _⟩
    · have hS := tkS_le T N p
      by_cases hp : 1 ≤ tkK T N p ∧ tkK T N p ≤ 255
      · have e6 : Im 0 6 = (3 : Int32) := by
          rw [c4.2.2.1]
          unfold ptK
          rw [if_neg (by omega), if_pos (by omega)]
          rfl
        have hlt : tkS T N p < N := by
          have hb := kdF_bd (T := T) (N := N) (s := tkS T N p) (z := tkA T N (p + 1)) a1.2.2.2
          by_cases q : tkS T N p < N
          · exact q
          · have : tkK T N p = 0 := hb.2.mpr (by omega)
            omega
        have hT := a1.2.2.2 _ hlt
        have eK : T (tkS T N p) = tkK T N p := by
          have e1 : tkK T N p = kdF T N (tkS T N p) (tkA T N (p + 1)) := rfl
          have hwb := wkN_bd T (tkS T N p) (tkA T N (p + 1))
          rw [e1] at hp ⊢
          unfold kdF at hp ⊢
          rw [if_pos hlt] at hp ⊢
          by_cases q : isL (T (tkS T N p)) = true
          · rw [if_pos q] at hp; omega
          · rw [if_neg q] at hp ⊢
            by_cases q2 : isD (T (tkS T N p)) = true
            · rw [if_pos q2] at hp; omega
            · rw [if_neg q2]
        rw [if_pos e6, c4.2.1, hg_in _ (by omega) (by omega), nI_clamp (by omega), a2.2.2.1 _ hlt, eK]
        by_cases q : tkK T N p = c
        · rw [if_pos (by rw [q]), decide_eq_true ⟨he, q⟩]
          rfl
        · rw [if_neg (fun w => q ((nI_eq (by omega) (by omega)).mp w)), decide_eq_false (fun w => q w.2)]
          rfl
      · have e6 : ¬ Im 0 6 = (3 : Int32) := by
          rw [c4.2.2.1]
          intro q
          have q2 := (nI_eq (a := ptK (tkK T N p)) (b := 3) (by unfold ptK; split <;> (try split) <;> (try split) <;> omega) (by omega)).mp q
          unfold ptK at q2
          by_cases w1 : tkK T N p = 0
          · rw [if_pos w1] at q2; omega
          · rw [if_neg w1, if_neg (by omega)] at q2
            by_cases w2 : tkK T N p = 256
            · rw [if_pos w2] at q2; omega
            · rw [if_neg w2] at q2; omega
        rw [if_neg e6, decide_eq_false (by omega)]
        rfl
    · omega
  · rw [if_neg (fun q => he ((wr_m1 h).mp q)), decide_eq_false (fun q => he q.1)]
    rfl
/-- a word, or a sign, is passed where it stands -/
theorem skipW_both (h : tkP T N n p e Ic Im) {j : Nat} (hj : j < 11) : (e = 0 ∧ tkK T N p = 258 + j ∧ p < n ∧ ∃ Ic' Im' : hI, mRd_skip (nI (258 + j)) Ic = some (nI 1, Ic') ∧ mM_takesWord j Im = some (nI 1, Im') ∧ tkP T N n (p + 1) 0 Ic' Im' ∧ frC Ic Ic' ∧ frMm Im Im') ∨ (¬ (e = 0 ∧ tkK T N p = 258 + j) ∧ mRd_skip (nI (258 + j)) Ic = some (nI 0, Ic) ∧ mM_takesWord j Im = some (nI 0, Im)) := by
  have hk := kd_is h (v := 258 + j) (by omega)
  have hw := m_isWord h hj
  by_cases c : e = 0 ∧ tkK T N p = 258 + j
  · left
    obtain ⟨rfl, c2⟩ := c
    have hp := (tk_kd h).2 (by omega)
    obtain ⟨Ic', Im', q1, q2, q3, q4, q5⟩ := next_both h hp
    refine ⟨rfl, c2, hp, Ic', Im', ?_, ?_, q3, q4, q5⟩
    · unfold mRd_skip
      rw [if_pos (hk.mpr ⟨rfl, c2⟩), q1, Option.bind_some]
      rfl
    · unfold mM_takesWord
      rw [hw, Option.bind_some, decide_eq_true ⟨rfl, c2⟩, if_neg (by decide), q2, Option.bind_some, hg_zb]
      rfl
  · right
    refine ⟨c, ?_, ?_⟩
    · unfold mRd_skip
      rw [if_neg (fun q => c (hk.mp q))]
      rfl
    · unfold mM_takesWord
      rw [hw, Option.bind_some, decide_eq_false c, if_pos (by decide), hg_zb]
      rfl
theorem skipS_both (h : tkP T N n p e Ic Im) {c : Nat} (hc : 1 ≤ c ∧ c ≤ 255) : (e = 0 ∧ tkK T N p = c ∧ p < n ∧ ∃ Ic' Im' : hI, mRd_skip (nI c) Ic = some (nI 1, Ic') ∧ mM_takes (nI c) Im = some (nI 1, Im') ∧ tkP T N n (p + 1) 0 Ic' Im' ∧ frC Ic Ic' ∧ frMm Im Im') ∨ (¬ (e = 0 ∧ tkK T N p = c) ∧ mRd_skip (nI c) Ic = some (nI 0, Ic) ∧ mM_takes (nI c) Im = some (nI 0, Im)) := by
  have hk := kd_is h (v := c) (by omega)
  have hw := m_isSign h hc
  by_cases c1 : e = 0 ∧ tkK T N p = c
  · left
    obtain ⟨rfl, c2⟩ := c1
    have hp := (tk_kd h).2 (by omega)
    obtain ⟨Ic', Im', q1, q2, q3, q4, q5⟩ := next_both h hp
    refine ⟨rfl, c2, hp, Ic', Im', ?_, ?_, q3, q4, q5⟩
    · unfold mRd_skip
      rw [if_pos (hk.mpr ⟨rfl, c2⟩), q1, Option.bind_some]
      rfl
    · unfold mM_takes
      rw [hw, Option.bind_some, decide_eq_true ⟨rfl, c2⟩, if_neg (by decide), q2, Option.bind_some, hg_zb]
      rfl
  · right
    refine ⟨c1, ?_, ?_⟩
    · unfold mRd_skip
      rw [if_neg (fun q => c1 (hk.mp q))]
      rfl
    · unfold mM_takes
      rw [hw, Option.bind_some, decide_eq_false c1, if_pos (by decide), hg_zb]
      rfl
/-- a sign must stand there -/
theorem take_both (h : tkP T N n p e Ic Im) {c : Nat} (hc : 1 ≤ c ∧ c ≤ 255) : ∃ (Ic' Im' : hI) (p' e' : Nat), mRd_take (nI c) Ic = some Ic' ∧ mM_must (nI c) Im = some Im' ∧ tkP T N n p' e' Ic' Im' ∧ frC Ic Ic' ∧ frMm Im Im' ∧ p ≤ p' ∧ (e' = 0 → e = 0 ∧ tkK T N p = c ∧ p < n ∧ p' = p + 1) := by
  rcases skipS_both h hc with ⟨rfl, c2, hp, Ic', Im', q1, q2, q3, q4, q5⟩ | ⟨c1, q1, q2⟩
  · refine ⟨Ic', Im', p + 1, 0, ?_, ?_, q3, q4, q5, by omega, fun _ => ⟨rfl, c2, hp, rfl⟩⟩
    · unfold mRd_take
      rw [q1, Option.bind_some, if_neg (pr1 _)]
      try dsimp only
    · unfold mM_must
      rw [q2, Option.bind_some, if_neg (pr1 _)]
      try dsimp only
  · obtain ⟨Ic', e', w1, w2, w3, w4, w5⟩ := fail_both h
    refine ⟨Ic', mM_bad Im, p, e', ?_, ?_, w2, w4, w5, Nat.le_refl _, fun q => by omega⟩
    · unfold mRd_take
      rw [q1, Option.bind_some, if_pos (pr0 _)]
      try dsimp only
      rw [w1, Option.bind_some]
    · unfold mM_must
      rw [q2, Option.bind_some, if_pos (pr0 _)]
      try dsimp only
      rw [hl_eq]
/-- a word must stand there -/
theorem takeW_both (h : tkP T N n p e Ic Im) {j : Nat} (hj : j < 11) (K : hI → Option (Int32 × hI)) : ∃ (Ic' Im' : hI) (p' e' : Nat), mRd_take (nI (258 + j)) Ic = some Ic' ∧ ((mM_takesWord j Im).bind fun q1 => if q1.1 = 0 then (h_let (mM_bad q1.2) fun q2 => K q2) else K q1.2) = K Im' ∧ tkP T N n p' e' Ic' Im' ∧ frC Ic Ic' ∧ frMm Im Im' ∧ p ≤ p' ∧ (e' = 0 → e = 0 ∧ tkK T N p = 258 + j ∧ p < n ∧ p' = p + 1) := by
  rcases skipW_both h hj with ⟨rfl, c2, hp, Ic', Im', q1, q2, q3, q4, q5⟩ | ⟨c1, q1, q2⟩
  · refine ⟨Ic', Im', p + 1, 0, ?_, ?_, q3, q4, q5, by omega, fun _ => ⟨rfl, c2, hp, rfl⟩⟩
    · unfold mRd_take
      rw [q1, Option.bind_some, if_neg (pr1 _)]
      try dsimp only
    · rw [q2, Option.bind_some, if_neg (pr1 _)]
      try dsimp only
  · obtain ⟨Ic', e', w1, w2, w3, w4, w5⟩ := fail_both h
    refine ⟨Ic', mM_bad Im, p, e', ?_, ?_, w2, w4, w5, Nat.le_refl _, fun q => by omega⟩
    · unfold mRd_take
      rw [q1, Option.bind_some, if_pos (pr0 _)]
      try dsimp only
      rw [w1, Option.bind_some]
    · rw [q2, Option.bind_some, if_pos (pr0 _)]
      try dsimp only
      rw [hl_eq]
theorem m_inR {a lo hi : Nat} (h1 : a < 2 ^ 31) (h2 : lo < 2 ^ 31) (h3 : hi < 2 ^ 31) : mM_in (nI a).toInt64 (nI lo).toInt64 (nI hi).toInt64 = bI (decide (lo ≤ a ∧ a ≤ hi)) := by
  unfold mM_in
  simp only [Int64.lt_iff_toInt_lt, Int32.toInt_toInt64, nI_toInt h1, nI_toInt h2, nI_toInt h3]
  by_cases c1 : lo ≤ a
  · by_cases c2 : a ≤ hi
    · rw [if_neg (by omega), if_neg (by omega), decide_eq_true ⟨c1, c2⟩]; rfl
    · rw [if_neg (by omega), if_pos (by omega), decide_eq_false (by omega)]; rfl
  · rw [if_pos (by omega), decide_eq_false (by omega)]; rfl
/-- a number within bounds must stand there -/
theorem number_both (h : tkP T N n p e Ic Im) {lo hi : Nat} (hl : lo ≤ hi) (hh : hi ≤ 99) : ∃ (v : Nat) (Ic' Im' : hI) (p' e' : Nat), mRd_takeNumber (nI lo) (nI hi) Ic = some (nI v, Ic') ∧ mM_takesNumber (nI lo) (nI hi) Im = some (nI v, Im') ∧ (lo ≤ v ∧ v ≤ hi) ∧ tkP T N n p' e' Ic' Im' ∧ frC Ic Ic' ∧ frMm Im Im' ∧ p ≤ p' ∧ (e' = 0 → e = 0 ∧ p < n ∧ p' = p + 1 ∧ tkK T N p = 256) := by
  have hn := tk_n h
  have hk := kd_isL h (v := 256) (x := 256) rfl (by omega)
  have a5 := h.2.2.2.2.1
  have hple := h.2.2.2.1
  have bad : ∀ (q : ¬ (e = 0 ∧ tkK T N p = 256 ∧ lo ≤ tkV T N p ∧ tkV T N p ≤ hi)) (A : mRd_takeNumber (nI lo) (nI hi) Ic = mRd_takeNumber_30 (nI lo) Ic) (B : mM_takesNumber (nI lo) (nI hi) Im = mM_takesNumber_31 (nI lo) Im), ∃ (v : Nat) (Ic' Im' : hI) (p' e' : Nat), mRd_takeNumber (nI lo) (nI hi) Ic = some (nI v, Ic') ∧ mM_takesNumber (nI lo) (nI hi) Im = some (nI v, Im') ∧ (lo ≤ v ∧ v ≤ hi) ∧ tkP T N n p' e' Ic' Im' ∧ frC Ic Ic' ∧ frMm Im Im' ∧ p ≤ p' ∧ (e' = 0 → e = 0 ∧ p < n ∧ p' = p + 1 ∧ tkK T N p = 256) := by
    intro q A B
    obtain ⟨Ic', e', w1, w2, w3, w4, w5⟩ := fail_both h
    refine ⟨lo, Ic', mM_bad Im, p, e', ?_, ?_, by omega, w2, w4, w5, Nat.le_refl _, fun q => by omega⟩
    · rw [A]; unfold mRd_takeNumber_30; rw [w1, Option.bind_some]
    · rw [B]; unfold mM_takesNumber_31; rw [hl_eq]
  by_cases c : e = 0 ∧ tkK T N p = 256
  · obtain ⟨rfl, c2⟩ := c
    have hp := (tk_kd h).2 (by omega)
    have e5 := (h.2.2.1.2.2.1 p hp).2.2.2 c2
    have hlt := (h.2.2.1.2.2.1 p hp).1
    have hV : tkV T N p ≤ 100 := by
      have e1 : tkK T N p = kdF T N (tkS T N p) (tkA T N (p + 1)) := rfl
      have hwb := wkN_bd T (tkS T N p) (tkA T N (p + 1))
      have hT := h.1.2.2.2 _ hlt
      have eA : tkA T N (p + 1) = tkE T N (tkS T N p) := rfl
      unfold tkV
      rw [e1] at c2
      unfold kdF at c2
      rw [if_pos hlt] at c2
      by_cases q : isL (T (tkS T N p)) = true
      · rw [if_pos q] at c2; omega
      · rw [if_neg q] at c2
        by_cases q2 : isD (T (tkS T N p)) = true
        · have eE : tkE T N (tkS T N p) = rn T N isD (tkS T N p + 1) := by unfold tkE; rw [if_pos hlt, if_neg q, if_pos q2]
          rw [eA, eE]
          exact (nvF_bd hlt q2).1
        · rw [if_neg q2] at c2; omega
    rcases h.2.2.2.2.2 with ⟨c0, k1, k2, k3, k4⟩ | ⟨c0, _⟩
    · have e6 : Im 0 6 = (2 : Int32) := by
        rw [k4.2.2.1, c2]
        rfl
      have e7 := k4.2.2.2 c2
      have hrV : rV (tkV T N p) < 2 ^ 31 := by unfold rV; split <;> omega
      have hin := m_inR (a := rV (tkV T N p)) (lo := lo) (hi := hi) hrV (by omega) (by omega)
      have topC : mRd_takeNumber (nI lo) (nI hi) Ic = if nI (tkV T N p) < nI lo then mRd_takeNumber_30 (nI lo) Ic else if nI (tkV T N p) ≤ nI hi then ((mRd_next Ic).bind fun q3 => some (nI (tkV T N p), q3)) else mRd_takeNumber_30 (nI lo) Ic := by
        unfold mRd_takeNumber
        rw [a5, hg_in _ (by omega) (by omega), nI_clamp (by omega), e5, hl_eq, if_pos (hk.mpr ⟨rfl, c2⟩)]
      have topM : mM_takesNumber (nI lo) (nI hi) Im = if bI (decide (lo ≤ rV (tkV T N p) ∧ rV (tkV T N p) ≤ hi)) = nI 0 then mM_takesNumber_31 (nI lo) Im else ((mM_next Im).bind fun q2 => some (nI (rV (tkV T N p)), q2)) := by
        unfold mM_takesNumber
        rw [if_pos ((wr_m1 h).mpr rfl), if_pos e6, e7, hin, hl_eq]
        rfl
      by_cases q : lo ≤ tkV T N p ∧ tkV T N p ≤ hi
      · have er : rV (tkV T N p) = tkV T N p := by unfold rV; rw [if_neg (by omega)]
        obtain ⟨Ic', Im', q1, q2, q3, q4, q5⟩ := next_both h hp
        refine ⟨tkV T N p, Ic', Im', p + 1, 0, ?_, ?_, q, q3, q4, q5, by omega, fun _ => ⟨rfl, hp, rfl, c2⟩⟩
        · rw [topC, if_neg (fun w => by have := (nI_ltI (by omega) (by omega)).mp w; omega), if_pos ((nI_leI (by omega) (by omega)).mpr q.2), q1, Option.bind_some]
        · rw [topM, er, decide_eq_true q, if_neg (by decide), q2, Option.bind_some]
      · refine bad (fun w => q w.2.2) ?_ ?_
        · rw [topC]
          by_cases q1 : tkV T N p < lo
          · rw [if_pos ((nI_ltI (by omega) (by omega)).mpr q1)]
          · rw [if_neg (fun w => q1 ((nI_ltI (by omega) (by omega)).mp w)), if_neg (fun w => by have := (nI_leI (by omega) (by omega)).mp w; omega)]
        · rw [topM, decide_eq_false, if_pos (by decide)]
          unfold rV
          split <;> omega
    · omega
  · refine bad (fun w => c ⟨w.1, w.2.1⟩) ?_ ?_
    · unfold mRd_takeNumber
      rw [a5, hg_in _ (by omega) (by omega), hl_eq, if_neg (fun w => c (hk.mp w))]
    · unfold mM_takesNumber
      by_cases he : e = 0
      · rw [if_pos ((wr_m1 h).mpr he)]
        rcases h.2.2.2.2.2 with ⟨c0, k1, k2, k3, k4⟩ | ⟨c0, _⟩
        · have e6 : ¬ Im 0 6 = (2 : Int32) := by
            rw [k4.2.2.1]
            intro q
            have q2 := (nI_eq (a := ptK (tkK T N p)) (b := 2) (by unfold ptK; split <;> (try split) <;> (try split) <;> omega) (by omega)).mp q
            unfold ptK at q2
            by_cases w1 : tkK T N p = 0
            · rw [if_pos w1] at q2; omega
            · rw [if_neg w1] at q2
              by_cases w2 : tkK T N p < 256
              · rw [if_pos w2] at q2; omega
              · rw [if_neg w2] at q2
                by_cases w3 : tkK T N p = 256
                · exact c ⟨he, w3⟩
                · rw [if_neg w3] at q2; omega
          rw [if_neg e6]
        · omega
      · rw [if_neg (fun q => he ((wr_m1 h).mp q))]
end Rb
