/-! best: the class cuts a line, to the end. -/
section Cv
variable {R : Nat → Nat → Int} {M : Nat}
def offC (I I' : hI) (J J' : hJ) : Prop := (∀ a x, (a ≠ 38 ∨ (x ≠ 9 ∧ x ≠ 10)) → I' a x = I a x) ∧ ∀ a x, a ≠ 46 → a ≠ 47 → J' a x = J a x
theorem ct_L (hb : bdR R M) (hM : M ≤ 92) {i j F : Nat} (hi : i < M) (hj : j < M) : ∀ (r p fuel : Nat) (I : hI) (J : hJ) (lo hi' : Option (Int × Int)), p + r = M → r < fuel → F ≤ p → I 38 4 = nI M → tbR R M J → lnQ (R i) (R j) J → endQ 46 9 lo I J → endQ 47 10 hi' I J → cutI R i j F p lo hi' → ∃ (I' : hI) (J' : hJ), offC I I' J J' ∧ ((mCo_cutLine_L15 fuel (nI p) I J = some (nI 0, I', J') ∧ noPt R i j F M) ∨ ∃ lo2 hi2, mCo_cutLine_L15 fuel (nI p) I J = some (nI 1, I', J') ∧ endQ 46 9 lo2 I' J' ∧ endQ 47 10 hi2 I' J' ∧ cutI R i j F M lo2 hi2) := by
  intro r
  induction r with
  | zero =>
    intro p fuel I J lo hi' hp hf gF h4 ht hl hlo hhi hc
    obtain ⟨fuel, rfl⟩ : ∃ m, fuel = m + 1 := ⟨fuel - 1, by omega⟩
    obtain rfl : p = M := by omega
    refine ⟨I, J, ⟨fun _ _ _ => rfl, fun _ _ _ _ => rfl⟩, Or.inr ⟨lo, hi', ?_, hlo, hhi, hc⟩⟩
    unfold mCo_cutLine_L15 mCo_cutLine_B15
    rw [h4]
    simp (disch := omega) only [↓reduceIte, h_let, hg_in, hg_zb, hg_z0, hg_z1, hg_nz, Option.bind_some, if_pos, if_neg, bI_0, bI_n0, nI_add, nI_mul, nI_ltI, nI_leI, nI_eq, nI_clamp, nI_subN, nI_divN, nI_mod2, nI_m1e, nI_em1, nI_m2e, nI_lt0, m1_lt0, m1_lt, m1_le, h_u_at, h_u_off2, h_u_pl, li_0, li_1, li_2, li_3, li_4, li_5, li_6, li_7, li_8, li_9, li_10, li_11, li_12, li_13, li_14, li_15, li_16, li_17, li_18, li_19, li_20, li_21, li_22, li_23, li_24, li_25, li_26, li_27, li_28, li_29, li_30, li_31, li_32, li_40, li_43, li_45, li_47, li_48, li_57, li_59, li_60, li_61, li_62, li_63, li_64, li_80, li_92, li_97, li_99, li_100, li_122, li_123, li_125, li_166, li_201, li_210, li_250, li_255, li_256, li_257, li_258, li_259, li_260, li_261, li_262, li_263, li_264, li_265, li_266, li_267, li_268, li_300, li_500, li_1000, li_12345, li_27720, li_1000000, li_1103515245, ne_m1, ne_m2]
  | succ r ih =>
    intro p fuel I J lo hi' hp hf gF h4 ht hl hlo hhi hc
    obtain ⟨fuel, rfl⟩ : ∃ m, fuel = m + 1 := ⟨fuel - 1, by omega⟩
    obtain ⟨c1, c2, c3, c4, c5, c6⟩ := hc
    have hpM : p < M := by omega
    obtain ⟨r0, r1, r2, r3⟩ := ht p hpM
    have hs := hl.1
    have st := ct_step ht hl hM hpM (mCo_cutLine_L15 fuel) I
    have bs := slp_bd hb hi hj hpM
    have bm' := mis_bd hb hi hj hpM
    have es := lI_eq (a := slp (R i) (R j) (R p)) (b := 0) (by omega) (by omega) (by omega) (by omega)
    have em := lI_le (a := mis (R i) (R j) (R p)) (b := 0) (by omega) (by omega) (by omega) (by omega)
    have es1 := lI_le (a := slp (R i) (R j) (R p)) (b := 0) (by omega) (by omega) (by omega) (by omega)
    have es2 := lI_le (a := 0) (b := slp (R i) (R j) (R p)) (by omega) (by omega) (by omega) (by omega)
    have l0 : (0 : Int64) = lI 0 := rfl
    have top : mCo_cutLine_L15 (fuel + 1) (nI p) I J = mCo_cutLine_L49 (mCo_cutLine_L15 fuel) hF (nI p) (lI 0) (lI (R p 3 * wyS (R i) (R j))) (nI 0) I J := by
      show mCo_cutLine_B15 (mCo_cutLine_L15 fuel) (nI p) I J = _
      unfold mCo_cutLine_B15
      generalize mCo_cutLine_L49 (mCo_cutLine_L15 fuel) hF = Z
      rw [h4, l0]
      simp (disch := omega) only [↓reduceIte, h_let, hg_in, hg_zb, hg_z0, hg_z1, hg_nz, Option.bind_some, if_pos, if_neg, bI_0, bI_n0, nI_add, nI_mul, nI_ltI, nI_leI, nI_eq, nI_clamp, nI_subN, nI_divN, nI_mod2, nI_m1e, nI_em1, nI_m2e, nI_lt0, m1_lt0, m1_lt, m1_le, h_u_at, h_u_off2, h_u_pl, li_0, li_1, li_2, li_3, li_4, li_5, li_6, li_7, li_8, li_9, li_10, li_11, li_12, li_13, li_14, li_15, li_16, li_17, li_18, li_19, li_20, li_21, li_22, li_23, li_24, li_25, li_26, li_27, li_28, li_29, li_30, li_31, li_32, li_40, li_43, li_45, li_47, li_48, li_57, li_59, li_60, li_61, li_62, li_63, li_64, li_80, li_92, li_97, li_99, li_100, li_122, li_123, li_125, li_166, li_201, li_210, li_250, li_255, li_256, li_257, li_258, li_259, li_260, li_261, li_262, li_263, li_264, li_265, li_266, li_267, li_268, li_300, li_500, li_1000, li_12345, li_27720, li_1000000, li_1103515245, ne_m1, ne_m2, Nat.reduceAdd, r3, hs, lI_mul]
    rw [top, st, l0]
    -- going on after this condition
    have go : ∀ (I1 : hI) (J1 : hJ) (lo1 hi1 : Option (Int × Int)), offC I I1 J J1 → endQ 46 9 lo1 I1 J1 → endQ 47 10 hi1 I1 J1 → ((∀ r, F ≤ r → r < p + 1 → slp (R i) (R j) (R r) = 0 → mis (R i) (R j) (R r) ≤ 0) ∧ (∀ r, F ≤ r → r < p + 1 → 0 < slp (R i) (R j) (R r) → ∃ u l, lo1 = some (u, l) ∧ mis (R i) (R j) (R r) * l ≤ u * slp (R i) (R j) (R r)) ∧ (∀ r, F ≤ r → r < p + 1 → slp (R i) (R j) (R r) < 0 → ∃ u l, hi1 = some (u, l) ∧ u * (- slp (R i) (R j) (R r)) ≤ (- mis (R i) (R j) (R r)) * l) ∧ (∀ u l, lo1 = some (u, l) → 0 < l ∧ ∃ r, F ≤ r ∧ r < p + 1 ∧ 0 < slp (R i) (R j) (R r) ∧ u = mis (R i) (R j) (R r) ∧ l = slp (R i) (R j) (R r)) ∧ (∀ u l, hi1 = some (u, l) → 0 < l ∧ ∃ r, F ≤ r ∧ r < p + 1 ∧ slp (R i) (R j) (R r) < 0 ∧ u = - mis (R i) (R j) (R r) ∧ l = - slp (R i) (R j) (R r))) → ∃ (I' : hI) (J' : hJ), offC I I' J J' ∧ ((mCo_cutLine_149 (mCo_cutLine_L15 fuel) (nI p) I1 J1 = some (nI 0, I', J') ∧ noPt R i j F M) ∨ ∃ lo2 hi2, mCo_cutLine_149 (mCo_cutLine_L15 fuel) (nI p) I1 J1 = some (nI 1, I', J') ∧ endQ 46 9 lo2 I' J' ∧ endQ 47 10 hi2 I' J' ∧ cutI R i j F M lo2 hi2) := by
      intro I1 J1 lo1 hi1 ho a1 a2 a3
      rcases ct_149 a1 a2 a3 p (mCo_cutLine_L15 fuel) with ⟨e1, e2⟩ | ⟨e1, e2⟩
      · obtain ⟨I', J', b1, b2⟩ := ih (p + 1) fuel I1 J1 lo1 hi1 (by omega) (by omega) (by omega) (by rw [ho.1 38 4 (by decide)]; exact h4) (tbR_of ht (fun a x q1 q2 => ho.2 a x (by omega) (by omega))) ⟨by rw [ho.2 38 8 (by decide) (by decide)]; exact hl.1, by rw [ho.2 45 0 (by decide) (by decide), ho.2 45 1 (by decide) (by decide), ho.2 45 2 (by decide) (by decide)]; exact hl.2.1, by rw [ho.2 44 0 (by decide) (by decide), ho.2 44 1 (by decide) (by decide), ho.2 44 2 (by decide) (by decide)]; exact hl.2.2⟩ a1 a2 e2
        refine ⟨I', J', ⟨fun a x hh => by rw [b1.1 a x hh, ho.1 a x hh], fun a x q1 q2 => by rw [b1.2 a x q1 q2, ho.2 a x q1 q2]⟩, ?_⟩
        rw [e1]
        exact b2
      · exact ⟨I1, J1, ho, Or.inl ⟨e1, noPt_mono e2 (by omega)⟩⟩
    by_cases z : slp (R i) (R j) (R p) = 0
    · rw [if_pos (es.mpr z)]
      by_cases mz : mis (R i) (R j) (R p) ≤ 0
      · rw [if_pos (em.mpr mz)]
        have e118 : mCo_cutLine_118 (mCo_cutLine_L15 fuel) (nI p) (lI (slp (R i) (R j) (R p))) (lI (mis (R i) (R j) (R p))) I J = mCo_cutLine_149 (mCo_cutLine_L15 fuel) (nI p) I J := by
          unfold mCo_cutLine_118
          rw [l0, if_pos (es1.mpr (by omega)), if_pos (es2.mpr (by omega))]
        rw [e118]
        refine go I J lo hi' ⟨fun _ _ _ => rfl, fun _ _ _ _ => rfl⟩ hlo hhi ⟨fun r q1 q2 q3 => ?_, fun r q1 q2 q3 => ?_, fun r q1 q2 q3 => ?_, fun u l e => ?_, fun u l e => ?_⟩
        · by_cases e : r = p
          · subst e; exact mz
          · exact c1 r q1 (by omega) q3
        · by_cases e : r = p
          · subst e; omega
          · exact c2 r q1 (by omega) q3
        · by_cases e : r = p
          · subst e; omega
          · exact c3 r q1 (by omega) q3
        · obtain ⟨x1, r, x2, x3, x4⟩ := c4 u l e
          exact ⟨x1, r, x2, by omega, x4⟩
        · obtain ⟨x1, r, x2, x3, x4⟩ := c5 u l e
          exact ⟨x1, r, x2, by omega, x4⟩
      · rw [if_neg (fun q => mz (em.mp q))]
        refine ⟨I, J, ⟨fun _ _ _ => rfl, fun _ _ _ _ => rfl⟩, Or.inl ⟨rfl, fun u l hl' => ⟨p, gF, hpM, ?_⟩⟩⟩
        rw [z, Int.mul_zero]
        exact Int.mul_pos (by omega) hl'
    · rw [if_neg (fun q => z (es.mp q))]
      unfold mCo_cutLine_118
      rw [l0]
      by_cases zp : 0 < slp (R i) (R j) (R p)
      · rw [if_neg (fun q => by have := es1.mp q; omega)]
        obtain ⟨I1, J1, u, l, a1, a2, a3, a4, a5, a6, a7⟩ := co_raise hlo bm' ⟨zp, bs.2⟩
        rw [a1]
        show ∃ I' J', offC I I' J J' ∧ ((mCo_cutLine_149 (mCo_cutLine_L15 fuel) (nI p) I1 J1 = some (nI 0, I', J') ∧ noPt R i j F M) ∨ ∃ lo2 hi2, mCo_cutLine_149 (mCo_cutLine_L15 fuel) (nI p) I1 J1 = some (nI 1, I', J') ∧ endQ 46 9 lo2 I' J' ∧ endQ 47 10 hi2 I' J' ∧ cutI R i j F M lo2 hi2)
        have hlpos : 0 < l := by
          rcases a5 with e | e
          · cases e; exact zp
          · exact (c4 u l e).1
        refine go I1 J1 (some (u, l)) hi' ⟨fun a x hh => a3 a x (by omega), fun a x q1 q2 => a4 a x q1⟩ a2 (endQ_of hhi (a3 38 10 (by decide)) ⟨a4 47 0 (by decide), a4 47 1 (by decide)⟩) ⟨fun r q1 q2 q3 => ?_, fun r q1 q2 q3 => ?_, fun r q1 q2 q3 => ?_, fun u2 l2 e => ?_, fun u2 l2 e => ?_⟩
        · by_cases e : r = p
          · subst e; omega
          · exact c1 r q1 (by omega) q3
        · refine ⟨u, l, rfl, ?_⟩
          by_cases e : r = p
          · subst e; exact a6
          · obtain ⟨u0, l0', x1, x2⟩ := c2 r q1 (by omega) q3
            exact frac_tr (c4 u0 l0' x1).1 hlpos (by omega) x2 (a7 u0 l0' x1)
        · by_cases e : r = p
          · subst e; omega
          · exact c3 r q1 (by omega) q3
        · cases e
          refine ⟨hlpos, ?_⟩
          rcases a5 with e | e
          · cases e
            exact ⟨p, gF, by omega, zp, rfl, rfl⟩
          · obtain ⟨_, r, x2, x3, x4⟩ := c4 u l e
            exact ⟨r, x2, by omega, x4⟩
        · obtain ⟨x1, r, x2, x3, x4⟩ := c5 u2 l2 e
          exact ⟨x1, r, x2, by omega, x4⟩
      · rw [if_pos (es1.mpr (by omega)), if_neg (fun q => by have := es2.mp q; omega)]
        rw [lI_neg, lI_neg]
        obtain ⟨I1, J1, u, l, a1, a2, a3, a4, a5, a6, a7⟩ := co_sink hhi (m := - mis (R i) (R j) (R p)) (s := - slp (R i) (R j) (R p)) (by omega) (by omega)
        rw [a1]
        show ∃ I' J', offC I I' J J' ∧ ((mCo_cutLine_149 (mCo_cutLine_L15 fuel) (nI p) I1 J1 = some (nI 0, I', J') ∧ noPt R i j F M) ∨ ∃ lo2 hi2, mCo_cutLine_149 (mCo_cutLine_L15 fuel) (nI p) I1 J1 = some (nI 1, I', J') ∧ endQ 46 9 lo2 I' J' ∧ endQ 47 10 hi2 I' J' ∧ cutI R i j F M lo2 hi2)
        have hlpos : 0 < l := by
          rcases a5 with e | e
          · cases e; omega
          · exact (c5 u l e).1
        refine go I1 J1 lo (some (u, l)) ⟨fun a x hh => a3 a x (by omega), fun a x q1 q2 => a4 a x q2⟩ (endQ_of hlo (a3 38 9 (by decide)) ⟨a4 46 0 (by decide), a4 46 1 (by decide)⟩) a2 ⟨fun r q1 q2 q3 => ?_, fun r q1 q2 q3 => ?_, fun r q1 q2 q3 => ?_, fun u2 l2 e => ?_, fun u2 l2 e => ?_⟩
        · by_cases e : r = p
          · subst e; omega
          · exact c1 r q1 (by omega) q3
        · by_cases e : r = p
          · subst e; omega
          · exact c2 r q1 (by omega) q3
        · refine ⟨u, l, rfl, ?_⟩
          by_cases e : r = p
          · subst e; exact a6
          · obtain ⟨u0, l0', x1, x2⟩ := c3 r q1 (by omega) q3
            have q := frac_tr (a := u) (s := l) (u0 := u0) (l0 := l0') (u := - mis (R i) (R j) (R r)) (l := - slp (R i) (R j) (R r)) (c5 u0 l0' x1).1 (by omega) (by omega) (a7 u0 l0' x1) x2
            exact q
        · obtain ⟨x1, r, x2, x3, x4⟩ := c4 u2 l2 e
          exact ⟨x1, r, x2, by omega, x4⟩
        · cases e
          refine ⟨hlpos, ?_⟩
          rcases a5 with e | e
          · cases e
            exact ⟨p, gF, by omega, by omega, rfl, rfl⟩
          · obtain ⟨_, r, x2, x3, x4⟩ := c5 u l e
            exact ⟨r, x2, by omega, x4⟩
end Cv
