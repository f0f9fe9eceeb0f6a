/-! A round walked: bodies, both sides. -/
section Wb
variable {t w h sz n : Nat} {v c : Int32} {Q : rD} {P E : cE} {pr : Nat → Int}
theorem ptN_lt {i j : Nat} (h : i < j) : ptI 24 (ptN i j) = nI (24 + i) := by
  have e : ptN i j = i + 1 := by unfold ptN; rw [if_neg (by omega)]
  rw [e]
  unfold ptI
  rw [if_neg (by omega)]
  rfl
theorem ptN_eq (i : Nat) : ptN i i = 0 := by unfold ptN; rw [if_pos rfl]
theorem wk_body : ∀ (f d i j a b : Nat), bodyOk Q f d i j a b → j ≤ n → b ≤ sz → ∀ (D' fm K it : Nat) (Ic Im : hI) (x y p : Nat), d ≤ D' → j - i < fm → it ≤ a → 48 < K → enQ t w h sz n v Q P E pr Ic Im → wkQ w h c x y p false Ic Im → p ≤ 20 * i → ∃ (Ic' Im' : hI) (x' y' p' : Nat) (o : Bool) (it' : Nat), mM_does_L2 (mM_does D') fm (ptI 24 (ptN i j)) Im = some Im' ∧ wkQ w h c x' y' p' o Ic' Im' ∧ p' ≤ 20 * j ∧ offW Ic Ic' Im Im' ∧ it' ≤ b ∧ (o = false → mWk_goRound_L5 (K - it) t v (nI a) (nI it) Ic = mWk_goRound_L5 (K - it') t v (nI b) (nI it') Ic') ∧ (o = true → mWk_goRound_L5 (K - it) t v (nI a) (nI it) Ic = some Ic') := by
  intro f
  induction f with
  | zero => intro d i j a b hb; exact hb.elim
  | succ f ih =>
    intro d i j a b hb hj hbs D' fm K it Ic Im x y p hd hfm hit hK H W hp
    have hsz := H.2.1
    obtain ⟨m, rfl⟩ : ∃ m, fm = m + 1 := ⟨fm - 1, by omega⟩
    rcases hb with ⟨rfl, rfl⟩ | ⟨i', a', q1, q2, q3, q4, q5, q6, q7, q8⟩
    · refine ⟨Ic, Im, x, y, p, false, it, ?_, W, hp, offW_id _ _, hit, fun _ => rfl, fun h => absurd h (by decide)⟩
      rw [ptN_eq]
      exact do_none _ m
    · have e0 : mM_does_L2 (mM_does D') (m + 1) (ptI 24 (ptN i j)) Im = mM_does_B2 (mM_does D') (mM_does_L2 (mM_does D') m) (nI (24 + i)) Im := by rw [ptN_lt (by omega)]; rfl
      obtain ⟨m', rfl⟩ : ∃ m', m = m' + 1 := ⟨m - 1, by omega⟩
      have w7 : Ic 6 4 = nI 0 := W.2.2.2.2.2.2.1.1
      -- what comes behind this statement
      have rest : ∀ (Ic3 Im3 : hI) (x3 y3 p3 it3 : Nat), offW Ic Ic3 Im Im3 → wkQ w h c x3 y3 p3 false Ic3 Im3 → p3 ≤ 20 * i' → it3 ≤ a' → ∃ (Ic' Im' : hI) (x' y' p' : Nat) (o : Bool) (it' : Nat), mM_does_L2 (mM_does D') (m' + 1) (ptI 24 (Q 9 i)) Im3 = some Im' ∧ wkQ w h c x' y' p' o Ic' Im' ∧ p' ≤ 20 * j ∧ offW Ic Ic' Im Im' ∧ it' ≤ b ∧ (o = false → mWk_goRound_L5 (K - it3) t v (nI a') (nI it3) Ic3 = mWk_goRound_L5 (K - it') t v (nI b) (nI it') Ic') ∧ (o = true → mWk_goRound_L5 (K - it3) t v (nI a') (nI it3) Ic3 = some Ic') := fun Ic3 Im3 x3 y3 p3 it3 o3 W3 hp3 hit3 => by
        obtain ⟨Ic', Im', x', y', p', o, it', r1, r2, r3, r4, r5, r6, r7⟩ := ih d i' j a' b q8 hj hbs D' (m' + 1) K it3 Ic3 Im3 x3 y3 p3 hd (by omega) hit3 hK (enQ_of H o3) W3 hp3
        exact ⟨Ic', Im', x', y', p', o, it', by rw [q6]; exact r1, r2, r3, offW_tr o3 r4, r5, r6, r7⟩
      rcases q7 with ⟨k1, k2, k3⟩ | ⟨k1, d', k, mm, k2, k3, k4, k5, k6, k7, k8, k9, k10, k11, k12⟩
      · obtain ⟨Ic2, Im2, x2, y2, p2, o, s1, s2, s3, s4, s5⟩ := simple_both H W (show i < n by omega) q5 (by omega) k1
        have g := go_step (K := K) hsz H.2.2.2.2.2.2.2.1 (show a < sz by omega) hit hK w7 s1
        cases o
        · obtain ⟨Ic', Im', x', y', p', o, it', r1, r2, r3, r4, r5, r6, r7⟩ := rest Ic2 Im2 x2 y2 p2 (it + 1) s5 s3 (by omega) (by omega)
          rw [k3] at r6 r7
          exact ⟨Ic', Im', x', y', p', o, it', by rw [e0, s2]; exact r1, r2, r3, r4, r5, fun h => g.trans (r6 h), fun h => g.trans (r7 h)⟩
        · refine ⟨Ic2, Im2, x2, y2, p2, true, b, ?_, s3, by omega, s5, Nat.le_refl _, fun h => absurd h (by decide), fun _ => ?_⟩
          · rw [e0, s2]
            exact do_out _ m' _ s3.2.2.2.2.2.2.1.2
          · exact g.trans (go_out (by omega) hK s3.2.2.2.2.2.2.1.1)
      · obtain ⟨b0, Ic2, Im2, s1, s2, s3, s4⟩ := fork_both H W (show i < n by omega) q5 (by omega) k1
        have g := go_step (K := K) hsz H.2.2.2.2.2.2.2.1 (show a < sz by omega) hit hK w7 s1
        obtain ⟨D'', rfl⟩ : ∃ D'', D' = D'' + 1 := ⟨D' - 1, by omega⟩
        have ed : ∀ vv Im, mM_does (D'' + 1) vv Im = mM_does_L2 (mM_does D'') hF vv Im := fun _ _ => rfl
        have H2 := enQ_of H s4
        cases b0
        · -- the second body
          rw [if_neg (by decide), k7] at g
          obtain ⟨Ic3, Im3, x3, y3, p3, o3, it3, r1, r2, r3, r4, r5, r6, r7⟩ := ih d' k i' (mm + 1) a' k12 (by omega) (by omega) D'' hF K (it + 1) Ic2 Im2 x y p (by omega) (by have := H.2.2.2.2.1.1; unfold hF; omega) (by omega) hK H2 s3 (by omega)
          have o13 := offW_tr s4 r4
          have e15 : Im3 15 (24 + i) = ptI 24 (Q 9 i) := ((enQ_of H o13).2.2.2.2.2.2.1 i (by omega)).2.2.2.2.2.2
          have e1 : mM_does_L2 (mM_does (D'' + 1)) (m' + 1 + 1) (ptI 24 (ptN i j)) Im = mM_does_L2 (mM_does (D'' + 1)) (m' + 1) (ptI 24 (Q 9 i)) Im3 := by
            rw [e0, s2, if_neg (by decide), k10, ed, r1, Option.bind_some, e15]
          cases o3
          · obtain ⟨Ic', Im', x', y', p', o, it', z1, z2, z3, z4, z5, z6, z7⟩ := rest Ic3 Im3 x3 y3 p3 it3 o13 r2 r3 r5
            exact ⟨Ic', Im', x', y', p', o, it', by rw [e1]; exact z1, z2, z3, z4, z5, fun h => (g.trans (r6 rfl)).trans (z6 h), fun h => (g.trans (r6 rfl)).trans (z7 h)⟩
          · refine ⟨Ic3, Im3, x3, y3, p3, true, b, ?_, r2, by omega, o13, Nat.le_refl _, fun h => absurd h (by decide), fun _ => g.trans (r7 rfl)⟩
            rw [e1]
            exact do_out _ m' _ r2.2.2.2.2.2.2.1.2
        · -- the first body, then the jump
          rw [if_pos rfl] at g
          obtain ⟨Ic3, Im3, x3, y3, p3, o3, it3, r1, r2, r3, r4, r5, r6, r7⟩ := ih d' (i + 1) k (a + 1) mm k11 (by omega) (by omega) D'' hF K (it + 1) Ic2 Im2 x y p (by omega) (by have := H.2.2.2.2.1.1; unfold hF; omega) (by omega) hK H2 s3 (by omega)
          have o13 := offW_tr s4 r4
          have H3 := enQ_of H o13
          have e15 : Im3 15 (24 + i) = ptI 24 (Q 9 i) := (H3.2.2.2.2.2.2.1 i (by omega)).2.2.2.2.2.2
          have e1 : mM_does_L2 (mM_does (D'' + 1)) (m' + 1 + 1) (ptI 24 (ptN i j)) Im = mM_does_L2 (mM_does (D'' + 1)) (m' + 1) (ptI 24 (Q 9 i)) Im3 := by
            rw [e0, s2, if_pos rfl, k9, ed, r1, Option.bind_some, e15]
          cases o3
          · have jg := jump_go H3 (show i < n by omega) k1 k7 (by omega)
            rw [k8] at jg
            have g2 := go_step (K := K) hsz H3.2.2.2.2.2.2.2.1 (show mm < sz by omega) r5 hK r2.2.2.2.2.2.2.1.1 jg
            obtain ⟨Ic', Im', x', y', p', o, it', z1, z2, z3, z4, z5, z6, z7⟩ := rest Ic3 Im3 x3 y3 p3 (it3 + 1) o13 r2 (by omega) (by omega)
            exact ⟨Ic', Im', x', y', p', o, it', by rw [e1]; exact z1, z2, z3, z4, z5, fun h => ((g.trans (r6 rfl)).trans g2).trans (z6 h), fun h => ((g.trans (r6 rfl)).trans g2).trans (z7 h)⟩
          · refine ⟨Ic3, Im3, x3, y3, p3, true, b, ?_, r2, by omega, o13, Nat.le_refl _, fun h => absurd h (by decide), fun _ => g.trans (r7 rfl)⟩
            rw [e1]
            exact do_out _ m' _ r2.2.2.2.2.2.2.1.2
/-- a whole round -/
theorem wk_round {f : Nat} (hb : bodyOk Q f 6 0 n 0 sz) {Ic Im : hI} {x y : Nat} (H : enQ t w h sz n v Q P E pr Ic Im) (W : wkQ w h c x y 0 false Ic Im) : ∃ (Ic' Im' : hI) (x' y' p' : Nat) (o : Bool), mWk_goRound t v Ic = some Ic' ∧ mM_does 10 (ptI 24 (ptN 0 n)) Im = some Im' ∧ wkQ w h c x' y' p' o Ic' Im' ∧ p' ≤ 480 ∧ offW Ic Ic' Im Im' := by
  have hn := H.2.2.2.2.1.1
  have hsz := H.2.1
  obtain ⟨Ic', Im', x', y', p', o, it', r1, r2, r3, r4, r5, r6, r7⟩ := wk_body (c := c) f 6 0 n 0 sz hb (Nat.le_refl _) (Nat.le_refl _) 9 hF 1000 0 Ic Im x y 0 (by decide) (by unfold hF; omega) (by decide) (by decide) H W (by decide)
  have top : mWk_goRound t v Ic = mWk_goRound_L5 (1000 - 0) t v (nI 0) (nI 0) Ic := by
    have e : hF = 1000 - 0 := by unfold hF; rfl
    unfold mWk_goRound
    rw [e, li_0]
  refine ⟨Ic', Im', x', y', p', o, ?_, r1, r2, by omega, r4⟩
  rw [top]
  cases o
  · rw [r6 rfl]
    obtain ⟨m, hm⟩ : ∃ m, 1000 - it' = m + 1 := ⟨1000 - it' - 1, by omega⟩
    have h3 : Ic' t 3 = nI sz := (enQ_of H r4).2.2.2.2.2.2.2.1
    have h4 : Ic' 6 4 = nI 0 := r2.2.2.2.2.2.2.1.1
    rw [hm]
    show mWk_goRound_B5 (mWk_goRound_L5 m) t v (nI sz) (nI it') Ic' = _
    unfold mWk_goRound_B5
    by_cases q : it' = 48
    · subst q
      simp (disch := omega) only [↓reduceIte, h_let, hg_in, hg_zb, hg_z0, hg_z1, hg_nz, Option.bind_some, if_pos, if_neg, bI_0, bI_n0, nI_add, nI_mul, nI_ltI, nI_leI, nI_eq, nI_clamp, nI_subN, nI_divN, nI_mod2, nI_m1e, nI_em1, nI_m2e, nI_lt0, m1_lt0, m1_lt, m1_le, h_u_at, h_u_off2, h_u_pl, li_0, li_1, li_2, li_3, li_4, li_5, li_6, li_7, li_8, li_9, li_10, li_11, li_12, li_13, li_14, li_15, li_16, li_17, li_18, li_19, li_20, li_21, li_22, li_23, li_24, li_25, li_26, li_27, li_28, li_29, li_30, li_31, li_32, li_40, li_43, li_45, li_47, li_48, li_57, li_59, li_60, li_61, li_62, li_63, li_64, li_80, li_92, li_97, li_99, li_100, li_122, li_123, li_125, li_166, li_201, li_210, li_250, li_255, li_256, li_257, li_258, li_259, li_260, li_261, li_262, li_263, li_264, li_265, li_266, li_267, li_268, li_300, li_500, li_1000, li_12345, li_27720, li_1000000, li_1103515245, ne_m1, ne_m2]
    · simp (disch := omega) only [↓reduceIte, h_let, hg_in, hg_zb, hg_z0, hg_z1, hg_nz, Option.bind_some, if_pos, if_neg, bI_0, bI_n0, nI_add, nI_mul, nI_ltI, nI_leI, nI_eq, nI_clamp, nI_subN, nI_divN, nI_mod2, nI_m1e, nI_em1, nI_m2e, nI_lt0, m1_lt0, m1_lt, m1_le, h_u_at, h_u_off2, h_u_pl, li_0, li_1, li_2, li_3, li_4, li_5, li_6, li_7, li_8, li_9, li_10, li_11, li_12, li_13, li_14, li_15, li_16, li_17, li_18, li_19, li_20, li_21, li_22, li_23, li_24, li_25, li_26, li_27, li_28, li_29, li_30, li_31, li_32, li_40, li_43, li_45, li_47, li_48, li_57, li_59, li_60, li_61, li_62, li_63, li_64, li_80, li_92, li_97, li_99, li_100, li_122, li_123, li_125, li_166, li_201, li_210, li_250, li_255, li_256, li_257, li_258, li_259, li_260, li_261, li_262, li_263, li_264, li_265, li_266, li_267, li_268, li_300, li_500, li_1000, li_12345, li_27720, li_1000000, li_1103515245, ne_m1, ne_m2, h4, h3]
  · exact r7 rfl
end Wb
