/-! Statements: both readers read one. -/
/-- what both readers have counted -/
def pgS (t s a pk k q : Nat) (Ic Im : hI) : Prop := (Ic t 3 = nI a ∧ Ic t 7 = nI s ∧ Im 0 24 = nI s) ∧ (Ic t 8 = nI pk ∧ Im 0 25 = nI pk) ∧ (Ic t 9 = nI (ctK Im 3 s) ∧ Ic t 10 = nI (ctK Im 2 s)) ∧ (Ic (t + 1) 5 = nI k ∧ Im 0 16 = nI k ∧ Im 0 11 = nI q) ∧ s ≤ 24 ∧ pk ≤ 3 ∧ k ≤ 100 ∧ q ≤ 2 * k + s
def okS (T : Nat → Nat) (N t g dd p s a pk k q cc : Nat) (Ic Im : hI) : Prop := pgS t s a pk k q Ic Im ∧ a + g ≤ 2 * s ∧ cc ≤ 2 ∧ Im 0 31 = nI cc ∧ Im 0 30 = nI dd ∧ 5 * k ≤ tkA T N p
/-- what a body that is read leaves -/
def blR (T : Nat → Nat) (N n t g dd p s a k q e' : Nat) (p' : Nat) (v w : Int32) (Ic Im Ic' Im' : hI) : Prop := tkP T N n p' e' Ic' Im' ∧ p ≤ p' ∧ GC t Ic Ic' ∧ FM s k q Im Im' ∧ (∃ a', a' ≤ 48 ∧ Ic' t 3 = nI a') ∧ (e' = 0 → p < p' ∧ ∃ s' a' pk' k' q' cc', v = nI cc' ∧ w = ptI 0 (ptN s s') ∧ okS T N t g dd p' s' a' pk' k' q' cc' Ic' Im' ∧ FC t a k (ctK Im 2 s) Ic Ic' ∧ (s ≤ s' ∧ a ≤ a' ∧ k ≤ k' ∧ q ≤ q') ∧ bodyR t (6 - dd) s s' a a' a' k' (ctK Im' 2 s') q' Ic' Im')
/-- bodies are read alike, with recursion so deep -/
def blkH (T : Nat → Nat) (N n t g0 : Nat) : Prop := ∀ (g dd p s a pk k q cc : Nat) (Ic Im : hI), 10 ≤ g0 + dd → dd ≤ 6 → tkP T N n p 0 Ic Im → okS T N t g dd p s a pk k q cc Ic Im → ∃ (v w : Int32) (Ic' Im' : hI) (p' e' : Nat), mLt_readBlock g0 t (nI (dd + 1)) (nI cc) Ic = some (v, Ic') ∧ mM_readBody g0 Im = some (w, Im') ∧ blR T N n t g dd p s a k q e' p' v w Ic Im Ic' Im'
/-- what a statement that is read leaves -/
def smR (T : Nat → Nat) (N n t g dd p s a k q e' : Nat) (p' : Nat) (v w : Int32) (Ic Im Ic' Im' : hI) : Prop := tkP T N n p' e' Ic' Im' ∧ p ≤ p' ∧ GC t Ic Ic' ∧ FM s k q Im Im' ∧ (∃ a', a' ≤ 48 ∧ Ic' t 3 = nI a') ∧ (e' = 0 → p < p' ∧ ∃ s' a' pk' k' q' cc', v = nI cc' ∧ w = nI s ∧ okS T N t g dd p' s' a' pk' k' q' cc' Ic' Im' ∧ FC t a k (ctK Im 2 s) Ic Ic' ∧ (s < s' ∧ a ≤ a' ∧ k ≤ k' ∧ q ≤ q') ∧ stmR t (7 - dd) s s' a a' a' k' (ctK Im' 2 s') q' Ic' Im' ∧ Im' 15 s = (-1 : Int32))
section St
variable {T : Nat → Nat} {N n p e t : Nat} {Ic Im : hI}
/-- a body where a fault was found -/
theorem block_bad (h : tkP T N n p e Ic Im) (he : 1 ≤ e) (g0 : Nat) (v2 v3 : Int32) : mLt_readBlock (g0 + 1) t v2 v3 Ic = some (v3, Ic) := by
  have k123 := kd_isL h (v := 123) (x := 123) rfl (by omega)
  show mLt_readBlock_B (mLt_readBlock g0) t v2 v3 Ic = _
  unfold mLt_readBlock_B mLt_readBlock_15
  rw [if_neg (fun w => by have := (k123.mp w).1; omega), fail_c ((kd_m1 h).mpr he), Option.bind_some]
theorem body_bad (h : tkP T N n p e Ic Im) (he : 1 ≤ e) (g0 : Nat) : mM_readBody (g0 + 1) Im = some ((-1 : Int32), Im) := by
  show mM_readBody_B (mM_readBody g0) Im = _
  unfold mM_readBody_B mM_readBody_18
  rw [li_123, m_isSign h (c := 123) (by omega), Option.bind_some, decide_eq_false (fun w => by omega), if_pos (by decide), hl_eq, bad_m h he]
theorem lt_add {a : Nat} {I : hI} (h3 : I t 3 = nI a) (ha : a ≤ 48) (v1 : Int32) : mLt_add t v1 I = some (t + 9 + min a 47, h_u (h_u I (t + 9 + min a 47) 0 v1) t 3 (nI (min a 47 + 1))) := by
  have e : (if (47 : Int32) < I t 3 then (47 : Int32) else I t 3) = nI (min a 47) := by
    rw [h3, li_47]
    by_cases c : 47 < a
    · rw [if_pos ((nI_ltI (by omega) (by omega)).mpr c)]; congr 1; omega
    · rw [if_neg (fun w => c ((nI_ltI (by omega) (by omega)).mp w))]; congr 1; omega
  unfold mLt_add
  rw [hl_eq, e, hg_in _ (by omega) (by omega), hl_eq, hl_eq, nI_clamp (by omega), li_1, nI_add]
theorem max_both (x y : Nat) (hx : x < 2 ^ 31) (hy : y < 2 ^ 31) : (if nI x < nI y then nI y else nI x) = nI (max x y) := by
  by_cases c : x < y
  · rw [if_pos ((nI_ltI hx hy).mpr c)]; congr 1; omega
  · rw [if_neg (fun w => c ((nI_ltI hx hy).mp w))]; congr 1; omega
/-- the two bodies of a fork: statement s, its step a -/
theorem ways_both {g0 g dd s a pk k q cc kd wh c2 c3 : Nat} (hb : blkH T N n t g0) (hg0 : 10 ≤ g0 + dd) (hg1 : 1 ≤ g0) (hdd : dd ≤ 6) (ht : 61 ≤ t) (h : tkP T N n p e Ic Im) (hs : s < 24) (ha : a ≤ 46) (hS : e = 0 → okS T N t (g + 1) dd p (s + 1) (a + 1) pk k q cc Ic Im ∧ hdQ t k (ctK Im 2 (s + 1)) q a kd wh c2 c3 s Ic Im ∧ Im 15 s = (-1 : Int32)) (hk3 : 3 ≤ kd ∧ kd ≤ 5) (hA : ∃ a', a' ≤ 48 ∧ Ic t 3 = nI a') (hbd : k ≤ 100 ∧ q ≤ 240) : ∃ (v : Int32) (Ic' Im' : hI) (p' e' : Nat), mLt_readWays (mLt_readBlock g0) t (t + 9 + a) (nI dd) (nI cc) Ic = some (v, Ic') ∧ mM_readWays_106 (mM_readBody g0) (nI s) Im = some Im' ∧ tkP T N n p' e' Ic' Im' ∧ p ≤ p' ∧ GC t Ic Ic' ∧ FM s k q Im Im' ∧ (∃ a', a' ≤ 48 ∧ Ic' t 3 = nI a') ∧ (e' = 0 → e = 0 ∧ p < p' ∧ ∃ s' a' pk' k' q' cc', v = nI cc' ∧ okS T N t g dd p' s' a' pk' k' q' cc' Ic' Im' ∧ FC t a k (ctK Im 2 s) Ic Ic' ∧ (s < s' ∧ a ≤ a' ∧ k ≤ k' ∧ q ≤ q') ∧ stmR t (7 - dd) s s' a a' a' k' (ctK Im' 2 s') q' Ic' Im' ∧ Im' 15 s = (-1 : Int32)) := by
  obtain ⟨g0, rfl⟩ : ∃ m, g0 = m + 1 := ⟨g0 - 1, by omega⟩
  -- from a fault found ahead of the second body
  have bad2 : ∀ (v5 : Int32) (Ic1 Im1 : hI) (p1 e1 : Nat) (a1 : Nat), tkP T N n p1 e1 Ic1 Im1 → 1 ≤ e1 → a1 ≤ 48 → Ic1 t 3 = nI a1 → p ≤ p1 → GC t Ic Ic1 → ∀ (v3 : Int32) (fm : FM s k q Im (h_u Im1 0 31 v3)), ∃ (v : Int32) (Ic' Im' : hI) (p' e' : Nat), ((mLt_add t (300 : Int32) Ic1).bind fun q3 => h_let (h_u q3.2 (t + 9 + a) 2 (q3.2 t 3)) fun I4 => (mLt_readBlock (g0 + 1) t (nI dd + (1 : Int32)) (nI cc) I4).bind fun q5 => h_let q5.1 fun v7x5 => h_let (h_u q5.2 q3.1 2 (q5.2 t 3)) fun I7 => some ((if v5 < v7x5 then v7x5 else v5), I7)) = some (v, Ic') ∧ mM_readWays_152 (mM_readBody (g0 + 1)) v3 (nI s) (-1 : Int32) (h_u Im1 0 31 v3) = some Im' ∧ tkP T N n p' e' Ic' Im' ∧ p ≤ p' ∧ GC t Ic Ic' ∧ FM s k q Im Im' ∧ (∃ a', a' ≤ 48 ∧ Ic' t 3 = nI a') ∧ 1 ≤ e' := by
    intro v5 Ic1 Im1 p1 e1 a1 g1 g2 g3 g4 g5 g6 v3 fm
    obtain ⟨J, hJ⟩ : ∃ J, J = h_u (h_u (h_u Ic1 (t + 9 + min a1 47) 0 (nI 300)) t 3 (nI (min a1 47 + 1))) (t + 9 + a) 2 (nI (min a1 47 + 1)) := ⟨_, rfl⟩
    have fJ : ∀ c i, (c < t ∨ t + 57 ≤ c) → J c i = Ic1 c i := fun c i w => by rw [hJ, hu_fr (by omega), hu_fr (by omega), hu_fr (by omega)]
    have kJ : tkP T N n p1 e1 J Im1 := tkP_of g1 (fun i _ => fJ 1 i (by omega)) (fun c i _ _ => fJ c i (by omega)) (fun _ _ _ => rfl) (fun _ => rfl)
    have j3 : J t 3 = nI (min a1 47 + 1) := by rw [hJ, hu_fr (by omega), h_u_at]
    obtain ⟨J2, hJ2⟩ : ∃ K, K = h_u J (t + 9 + min a1 47) 2 (nI (min a1 47 + 1)) := ⟨_, rfl⟩
    have fJ2 : ∀ c i, (c < t ∨ t + 57 ≤ c) → J2 c i = Ic1 c i := fun c i w => by rw [hJ2, hu_fr (by omega), fJ c i w]
    obtain ⟨M2, hM2⟩ : ∃ K, K = h_u (h_u (h_u Im1 0 31 v3) 14 s (-1 : Int32)) 0 31 v3 := ⟨_, rfl⟩
    refine ⟨if v5 < nI cc then nI cc else v5, J2, M2, p1, e1, ?_, ?_, tkP_of g1 (fun i _ => fJ2 1 i (by omega)) (fun c i _ _ => fJ2 c i (by omega)) (fun i _ _ => by rw [hM2, hu_fr (by omega), hu_fr (by omega), hu_fr (by omega)]) (fun i => by rw [hM2, hu_fr (by omega), hu_fr (by omega), hu_fr (by omega)]), g5, GC_tr g6 (fun c i _ w => fJ2 c i w), fun c i w1 w2 w3 w4 => by rw [hM2, hu_fr (by omega), hu_fr (by omega)]; exact fm c i w1 w2 w3 w4, ⟨min a1 47 + 1, by omega, by rw [hJ2, hu_fr (by omega)]; exact j3⟩, g2⟩
    · rw [lt_add g4 g3, Option.bind_some, hl_eq]
      dsimp only
      rw [h_u_at, li_300, ← hJ, block_bad kJ g2, Option.bind_some, hl_eq, hl_eq]
      dsimp only
      rw [j3, ← hJ2]
    · unfold mM_readWays_152
      rw [hg_in _ (by omega) (by omega), hl_eq, nI_clamp (by omega), hl_eq, hu_fr (by omega), h_u_at]
      have e3 : (if v3 < v3 then v3 else v3) = v3 := by split <;> rfl
      rw [e3, ← hM2]
  by_cases he : e = 0
  · subst he
    obtain ⟨hok, hhd, h15⟩ := hS rfl
    obtain ⟨hpg, hag, hcc, h31, h30, hA5⟩ := hok
    obtain ⟨v1, w1, Ic1, Im1, p1, e1, x1, x2, x3, x4, x5, x6, ⟨a1, x7, x8⟩, x9⟩ := hb (g + 1) dd p (s + 1) (a + 1) pk k q cc Ic Im hg0 hdd h ⟨hpg, hag, hcc, h31, h30, hA5⟩
    have topC : mLt_readWays (mLt_readBlock (g0 + 1)) t (t + 9 + a) (nI dd) (nI cc) Ic = ((mLt_add t (300 : Int32) Ic1).bind fun q3 => h_let (h_u q3.2 (t + 9 + a) 2 (q3.2 t 3)) fun I4 => (mLt_readBlock (g0 + 1) t (nI dd + (1 : Int32)) (nI cc) I4).bind fun q5 => h_let q5.1 fun v7x5 => h_let (h_u q5.2 q3.1 2 (q5.2 t 3)) fun I7 => some ((if v1 < v7x5 then v7x5 else v1), I7)) := by
      unfold mLt_readWays
      have e1 : nI dd + (1 : Int32) = nI (dd + 1) := by rw [li_1, nI_add]
      rw [e1, x1, Option.bind_some, hl_eq]
    obtain ⟨M4, hM4⟩ : ∃ J, J = h_u Im1 13 s w1 := ⟨_, rfl⟩
    have fM4 : ∀ c i, (c ≠ 13 ∨ i ≠ s) → M4 c i = Im1 c i := fun c i w => by rw [hM4, hu_fr w]
    have topM : mM_readWays_106 (mM_readBody (g0 + 1)) (nI s) Im = if (h_u M4 0 31 (nI cc) 0 5) = (-1 : Int32) then ((mM_readBody (g0 + 1) (h_u M4 0 31 (nI cc))).bind fun q7 => mM_readWays_152 (mM_readBody (g0 + 1)) (Im1 0 31) (nI s) q7.1 q7.2) else mM_readWays_152 (mM_readBody (g0 + 1)) (Im1 0 31) (nI s) (-1 : Int32) (h_u M4 0 31 (nI cc)) := by
      unfold mM_readWays_106
      rw [hl_eq, x2, Option.bind_some, hg_in _ (by omega) (by omega), hl_eq, nI_clamp (by omega), hl_eq, hl_eq, h31]
      show (if (h_u (h_u Im1 13 s w1) 0 31 (nI cc) 0 5) = (-1 : Int32) then ((mM_readBody (g0 + 1) (h_u (h_u Im1 13 s w1) 0 31 (nI cc))).bind fun q7 => mM_readWays_152 (mM_readBody (g0 + 1)) (h_u Im1 13 s w1 0 31) (nI s) q7.1 q7.2) else mM_readWays_152 (mM_readBody (g0 + 1)) (h_u Im1 13 s w1 0 31) (nI s) (-1 : Int32) (h_u (h_u Im1 13 s w1) 0 31 (nI cc))) = _
      rw [← hM4, fM4 0 31 (by omega)]
    have k4 : ∀ z : Int32, tkP T N n p1 e1 Ic1 (h_u M4 0 31 z) := fun z => tkP_of x3 (fun _ _ => rfl) (fun _ _ _ _ => rfl) (fun i _ _ => by rw [hu_fr (by omega), fM4 0 i (by omega)]) (fun i => by rw [hu_fr (by omega), fM4 1 i (by omega)])
    by_cases he1 : e1 = 0
    · subst he1
      obtain ⟨y0, s1, a1', pk1, k1, q1, cc1, y1, y2, ⟨ypg, yag, ycc, y31, y30, yA5⟩, y4, y5, y6⟩ := x9 rfl
      have ea : a1 = a1' := by
        have := ypg.1.1
        rw [x8] at this
        exact (nI_eq (by omega) (by have := ypg.2.2.2.2.1; omega)).mp this
      subst ea
      obtain ⟨⟨p3, p7, p24⟩, ⟨p8, p25⟩, ⟨p9, p10⟩, ⟨p15, p16, p11⟩, ps, ppk, pk100, pq⟩ := ypg
      -- the jump
      have ha47 : a1 ≤ 47 := by omega
      have emin : min a1 47 = a1 := by omega
      obtain ⟨J, hJ⟩ : ∃ J, J = h_u (h_u (h_u Ic1 (t + 9 + a1) 0 (nI 300)) t 3 (nI (a1 + 1))) (t + 9 + a) 2 (nI (a1 + 1)) := ⟨_, rfl⟩
      have fJ : ∀ c i, (c ≠ t + 9 + a1 ∨ i ≠ 0) → (c ≠ t ∨ i ≠ 3) → (c ≠ t + 9 + a ∨ i ≠ 2) → J c i = Ic1 c i := fun c i q1 q2 q3 => by rw [hJ, hu_fr (by omega), hu_fr (by omega), hu_fr (by omega)]
      have j3 : J t 3 = nI (a1 + 1) := by rw [hJ, hu_fr (by omega), h_u_at]
      have j2 : J (t + 9 + a) 2 = nI (a1 + 1) := by rw [hJ, h_u_at]
      have j0 : J (t + 9 + a1) 0 = nI 300 := by rw [hJ, hu_fr (by omega), hu_fr (by omega), h_u_at]
      obtain ⟨M5, hM5⟩ : ∃ K, K = h_u M4 0 31 (nI cc) := ⟨_, rfl⟩
      have fM5 : ∀ c i, (c ≠ 13 ∨ i ≠ s) → (c ≠ 0 ∨ i ≠ 31) → M5 c i = Im1 c i := fun c i q1 q2 => by rw [hM5, hu_fr q2, fM4 c i q1]
      have k5 : tkP T N n p1 0 J M5 := tkP_of x3 (fun i _ => fJ 1 i (by omega) (by omega) (by omega)) (fun c i _ _ => fJ c i (by omega) (by omega) (by omega)) (fun i _ _ => fM5 0 i (by omega) (by omega)) (fun i => fM5 1 i (by omega) (by omega))
      have ct5 : ∀ kd x, ctK M5 kd x = ctK Im1 kd x := fun kd x => ctK_congr x (fun y _ => fM5 9 y (by omega) (by omega))
      have ok5 : okS T N t g dd p1 s1 (a1 + 1) pk1 k1 q1 cc J M5 := by
        refine ⟨⟨⟨j3, by rw [fJ t 7 (by omega) (by omega) (by omega)]; exact p7, by rw [fM5 0 24 (by omega) (by omega)]; exact p24⟩, ⟨by rw [fJ t 8 (by omega) (by omega) (by omega)]; exact p8, by rw [fM5 0 25 (by omega) (by omega)]; exact p25⟩, ⟨by rw [fJ t 9 (by omega) (by omega) (by omega), ct5]; exact p9, by rw [fJ t 10 (by omega) (by omega) (by omega), ct5]; exact p10⟩, ⟨by rw [fJ (t + 1) 5 (by omega) (by omega) (by omega)]; exact p15, by rw [fM5 0 16 (by omega) (by omega)]; exact p16, by rw [fM5 0 11 (by omega) (by omega)]; exact p11⟩, ps, ppk, pk100, pq⟩, by omega, hcc, by rw [hM5, h_u_at], by rw [fM5 0 30 (by omega) (by omega)]; exact y30, yA5⟩
      obtain ⟨v2, w2, Ic2, Im2, p2, e2, u1, u2, u3, u4, u5, u6, ⟨a2, u7, u8⟩, u9⟩ := hb g dd p1 s1 (a1 + 1) pk1 k1 q1 cc J M5 hg0 hdd k5 ok5
      obtain ⟨J2, hJ2⟩ : ∃ K, K = h_u Ic2 (t + 9 + a1) 2 (nI a2) := ⟨_, rfl⟩
      obtain ⟨M6, hM6⟩ : ∃ K, K = h_u (h_u Im2 14 s w2) 0 31 (if (Im2 0 31) < Im1 0 31 then Im1 0 31 else Im2 0 31) := ⟨_, rfl⟩
      have fJ2 : ∀ c i, (c ≠ t + 9 + a1 ∨ i ≠ 2) → J2 c i = Ic2 c i := fun c i w => by rw [hJ2, hu_fr w]
      have fM6 : ∀ c i, (c ≠ 14 ∨ i ≠ s) → (c ≠ 0 ∨ i ≠ 31) → M6 c i = Im2 c i := fun c i w1 w2 => by rw [hM6, hu_fr w2, hu_fr w1]
      have GJ : GC t Ic1 J := fun c i _ w => fJ c i (by omega) (by omega) (by omega)
      have GJ2 : GC t Ic2 J2 := fun c i _ w => fJ2 c i (by omega)
      have FM5 : FM s k q Im M5 := fun c i w1 w2 w3 w4 => by rw [fM5 c i (by omega) (by omega)]; exact x6 c i w1 w2 w3 (by omega)
      have FM6 : FM s k q Im M6 := fun c i w1 w2 w3 w4 => by rw [fM6 c i (by omega) (by omega), u6 c i w1 (by omega) (by omega) (by omega)]; exact FM5 c i w1 w2 w3 w4
      refine ⟨if v1 < v2 then v2 else v1, J2, M6, p2, e2, ?_, ?_, tkP_of u3 (fun i _ => fJ2 1 i (by omega)) (fun c i _ _ => fJ2 c i (by omega)) (fun i _ _ => fM6 0 i (by omega) (by omega)) (fun i => fM6 1 i (by omega) (by omega)), by omega, GC_tr (GC_tr (GC_tr x5 GJ) u5) GJ2, FM6, ⟨a2, u7, by rw [fJ2 t 3 (by omega)]; exact u8⟩, fun z => ?_⟩
      · have e1 : nI dd + (1 : Int32) = nI (dd + 1) := by rw [li_1, nI_add]
        rw [topC, lt_add x8 x7, emin, Option.bind_some, hl_eq]
        dsimp only
        rw [h_u_at, li_300, ← hJ, e1, u1, Option.bind_some, hl_eq, hl_eq]
        dsimp only
        rw [u8, ← hJ2]
      · rw [topM, ← hM5, if_pos ((wr_m1 k5).mpr rfl), u2, Option.bind_some]
        unfold mM_readWays_152
        rw [hg_in _ (by omega) (by omega), hl_eq, nI_clamp (by omega), hl_eq, hu_fr (by omega), ← hM6]
      · subst z
        obtain ⟨z0, s2, a2', pk2, k2, q2, cc2, z1, z2, ⟨zpg, zag, zcc, z31, z30, zA5⟩, z4, z5, z6⟩ := u9 rfl
        have ea : a2 = a2' := by
          have := zpg.1.1
          rw [u8] at this
          exact (nI_eq (by omega) (by have := zpg.2.2.2.2.1; omega)).mp this
        subst ea
        obtain ⟨⟨r3, r7, r24⟩, ⟨r8, r25⟩, ⟨r9, r10⟩, ⟨r15, r16, r11⟩, rs, rpk, rk100, rq⟩ := zpg
        have ct6 : ∀ kd x, ctK M6 kd x = ctK Im2 kd x := fun kd x => ctK_congr x (fun y _ => fM6 9 y (by omega) (by omega))
        have ct1 : ∀ kd x, x ≤ s1 → ctK Im2 kd x = ctK Im1 kd x := fun kd x hx => by
          rw [ctK_congr (I := M5) x (fun y hy => u6 9 y (by omega) (by omega) (by omega) (by omega)), ct5]
        have ct0 : ∀ kd x, x ≤ s + 1 → ctK Im1 kd x = ctK Im kd x := fun kd x hx => ctK_congr x (fun y hy => x6 9 y (by omega) (by omega) (by omega) (by omega))
        have cm := ctK_mono Im1 2 (s + 1) (s1 - (s + 1))
        have cm2 := ctK_mono Im2 2 s1 (s2 - s1)
        have es1 : s + 1 + (s1 - (s + 1)) = s1 := by omega
        have es2 : s1 + (s2 - s1) = s2 := by omega
        rw [es1, ct0 2 (s + 1) (by omega)] at cm
        rw [es2, ct1 2 s1 (by omega)] at cm2
        have cms := ctK_mono Im 2 s 1
        rw [ct5] at z4
        -- everything as it stands at the end
        have FCJ : FC t (a + 1) k (ctK Im 2 (s + 1)) Ic J → True := fun _ => trivial
        have frA : ∀ c i, (c ≠ 1 ∨ i < 6 ∨ 11 < i) → (c ≠ t ∨ (i ≠ 3 ∧ i ≠ 7 ∧ i ≠ 8 ∧ i ≠ 9 ∧ i ≠ 10)) → (c ≠ t + 1 ∨ i ≠ 5) → (c < t + 2 ∨ t + 6 < c ∨ i < k1) → (c ≠ t + 8 ∨ i < ctK Im1 2 s1) → (c < t + 9 + a1 ∨ t + 57 ≤ c) → (c ≠ t + 9 + a ∨ i ≠ 2) → J2 c i = Ic1 c i := fun c i w1 w2 w3 w4 w5 w6 w7 => by
          rw [fJ2 c i (by omega), z4 c i w1 w2 w3 w4 w5 (by omega), fJ c i (by omega) (by omega) w7]
        have frB : ∀ c i, (c ≠ 0 ∨ i < 3 ∨ (7 < i ∧ i ≠ 11 ∧ i ≠ 16 ∧ i ≠ 24 ∧ i ≠ 25 ∧ i ≠ 30 ∧ i ≠ 31)) → (c < 2 ∨ 4 < c ∨ i < q1 ∨ 250 ≤ i) → (c < 5 ∨ 8 < c ∨ i < k1 ∨ 250 ≤ i) → (c < 9 ∨ 15 < c ∨ i < s1 ∨ 24 ≤ i) → ((c ≠ 13 ∧ c ≠ 14) ∨ i ≠ s) → M6 c i = Im1 c i := fun c i w1 w2 w3 w4 w5 => by
          rw [fM6 c i (by omega) (by omega), u6 c i w1 w2 w3 w4, fM5 c i (by omega) (by omega)]
        have body1 : bodyR t (6 - dd) (s + 1) s1 (a + 1) a1 a2 k2 (ctK M6 2 s2) q2 J2 M6 := by
          obtain ⟨Q, f, b1, b2⟩ := y6
          refine ⟨Q, f, b1, fun y w1 w2 => ?_⟩
          obtain ⟨c1, c2⟩ := b2 y w1 w2
          obtain ⟨c1, d1, d2⟩ := c1
          have hge : a + 1 ≤ Q 4 y ∧ ((3 ≤ Q 0 y ∧ Q 0 y ≤ 5) → a + 2 ≤ Q 5 y) := stp_ge _ _ _ _ _ _ b1 y w1 w2
          refine ⟨⟨hdQ_of c1 (by omega) (by rw [ct6]; omega) (by omega) (fun i _ => frA _ i (by omega) (by omega) (by omega) (by omega) (by omega) (by omega) (by omega)) (fun c i w3 w4 w5 => frA c i (by omega) (by omega) (by omega) (by omega) (by omega) (by omega) (by omega)) (fun i hi => frA _ i (by omega) (by omega) (by omega) (by omega) (by omega) (by omega) (by omega)) (fun x hx => frB 9 x (by omega) (by omega) (by omega) (by omega) (by omega)) (fun c w3 w4 => frB c y (by omega) (by omega) (by omega) (by omega) (by omega)) (fun c i w3 w4 w5 => frB c i (by omega) (by omega) (by omega) (by omega) (by omega)) (fun c i w3 w4 w5 => frB c i (by omega) (by omega) (by omega) (by omega) (by omega)), by omega, fun z => ?_⟩, by rw [frB 15 y (by omega) (by omega) (by omega) (by omega) (by omega)]; exact c2⟩
          obtain ⟨b0, b1', b2', b3, b4, b5⟩ := d2 z
          have hge2 := hge.2 z
          exact ⟨by omega, by rw [frA _ 2 (by omega) (by omega) (by omega) (by omega) (by omega) (by omega) (by omega)]; exact b1', by rw [frA _ 0 (by omega) (by omega) (by omega) (by omega) (by omega) (by omega) (by omega)]; exact b2', by rw [frA _ 2 (by omega) (by omega) (by omega) (by omega) (by omega) (by omega) (by omega)]; exact b3, by rw [frB 13 y (by omega) (by omega) (by omega) (by omega) (by omega)]; exact b4, by rw [frB 14 y (by omega) (by omega) (by omega) (by omega) (by omega)]; exact b5⟩
        have body2 : bodyR t (6 - dd) s1 s2 (a1 + 1) a2 a2 k2 (ctK M6 2 s2) q2 J2 M6 := by
          obtain ⟨Q, f, b1, b2⟩ := z6
          refine ⟨Q, f, b1, fun y w1 w2 => ?_⟩
          obtain ⟨⟨c1, d1, d2⟩, c2⟩ := b2 y w1 w2
          have hge : a1 + 1 ≤ Q 4 y ∧ ((3 ≤ Q 0 y ∧ Q 0 y ≤ 5) → a1 + 2 ≤ Q 5 y) := stp_ge _ _ _ _ _ _ b1 y w1 w2
          refine ⟨⟨hdQ_of c1 (by omega) (by rw [ct6]; omega) (by omega) (fun i _ => fJ2 _ i (by omega)) (fun c i w3 w4 w5 => fJ2 c i (by omega)) (fun i hi => fJ2 _ i (by omega)) (fun x hx => fM6 9 x (by omega) (by omega)) (fun c w3 w4 => fM6 c y (by omega) (by omega)) (fun c i w3 w4 w5 => fM6 c i (by omega) (by omega)) (fun c i w3 w4 w5 => fM6 c i (by omega) (by omega)), d1, fun z => ?_⟩, by rw [fM6 15 y (by omega) (by omega)]; exact c2⟩
          obtain ⟨b0, b1', b2', b3, b4, b5⟩ := d2 z
          have hge2 := hge.2 z
          exact ⟨b0, by rw [fJ2 _ 2 (by omega)]; exact b1', by rw [fJ2 _ 0 (by omega)]; exact b2', by rw [fJ2 _ 2 (by omega)]; exact b3, by rw [fM6 13 y (by omega) (by omega)]; exact b4, by rw [fM6 14 y (by omega) (by omega)]; exact b5⟩
        have hd2 : hdQ t k2 (ctK M6 2 s2) q2 a kd wh c2 c3 s J2 M6 := hdQ_of hhd (by omega) (by rw [ct6]; omega) (by omega) (fun i hi => by rw [frA _ i (by omega) (by omega) (by omega) (by omega) (by omega) (by omega) (by omega)]; exact y4 _ i (by omega) (by omega) (by omega) (by omega) (by omega) (by omega)) (fun c i w3 w4 w5 => by rw [frA c i (by omega) (by omega) (by omega) (by omega) (by omega) (by omega) (by omega)]; exact y4 c i (by omega) (by omega) (by omega) (by omega) (by omega) (by omega)) (fun i hi => by rw [frA _ i (by omega) (by omega) (by omega) (by omega) (by omega) (by omega) (by omega)]; exact y4 _ i (by omega) (by omega) (by omega) (by omega) (by omega) (by omega)) (fun x hx => by rw [frB 9 x (by omega) (by omega) (by omega) (by omega) (by omega)]; exact x6 9 x (by omega) (by omega) (by omega) (by omega)) (fun c w3 w4 => by rw [frB c s (by omega) (by omega) (by omega) (by omega) (by omega)]; exact x6 c s (by omega) (by omega) (by omega) (by omega)) (fun c i w3 w4 w5 => by rw [frB c i (by omega) (by omega) (by omega) (by omega) (by omega)]; exact x6 c i (by omega) (by omega) (by omega) (by omega)) (fun c i w3 w4 w5 => by rw [frB c i (by omega) (by omega) (by omega) (by omega) (by omega)]; exact x6 c i (by omega) (by omega) (by omega) (by omega))
        have e7 : 7 - dd = (6 - dd) + 1 := by omega
        refine ⟨rfl, by omega, s2, a2, pk2, k2, q2, max cc1 cc2, ?_, ⟨⟨⟨by rw [fJ2 t 3 (by omega)]; exact r3, by rw [fJ2 t 7 (by omega)]; exact r7, by rw [fM6 0 24 (by omega) (by omega)]; exact r24⟩, ⟨by rw [fJ2 t 8 (by omega)]; exact r8, by rw [fM6 0 25 (by omega) (by omega)]; exact r25⟩, ⟨by rw [fJ2 t 9 (by omega), ct6]; exact r9, by rw [fJ2 t 10 (by omega), ct6]; exact r10⟩, ⟨by rw [fJ2 (t + 1) 5 (by omega)]; exact r15, by rw [fM6 0 16 (by omega) (by omega)]; exact r16, by rw [fM6 0 11 (by omega) (by omega)]; exact r11⟩, rs, rpk, rk100, rq⟩, by omega, by omega, ?_, by rw [fM6 0 30 (by omega) (by omega)]; exact z30, zA5⟩, fun c i w1 w2 w3 w4 w5 w6 => ?_, by omega, ?_, ?_⟩
        · rw [y1, z1]; exact max_both cc1 cc2 (by omega) (by omega)
        · rw [hM6, h_u_at, z31, y31, max_both cc2 cc1 (by omega) (by omega), Nat.max_comm]
        · rw [frA c i w1 w2 w3 (by omega) (by omega) (by omega) (by omega)]
          exact y4 c i w1 w2 w3 w4 (by omega) (by omega)
        · rw [e7]
          refine stm_fork hd2 hk3 (Nat.le_refl _) body1 body2 (by omega) (by omega) (by omega) (by omega) ?_ ?_ ?_ ?_ ?_
          · rw [fJ2 _ 2 (by omega), z4 _ 2 (by omega) (by omega) (by omega) (by omega) (by omega) (by omega)]; exact j2
          · rw [fJ2 _ 0 (by omega), z4 _ 0 (by omega) (by omega) (by omega) (by omega) (by omega) (by omega)]; exact j0
          · rw [hJ2, h_u_at]
          · rw [fM6 13 s (by omega) (by omega), u6 13 s (by omega) (by omega) (by omega) (by omega), hM5, hu_fr (by omega), hM4, h_u_at]; exact y2
          · rw [hM6, hu_fr (by omega), h_u_at]; exact z2
        · rw [frB 15 s (by omega) (by omega) (by omega) (by omega) (by omega), x6 15 s (by omega) (by omega) (by omega) (by omega)]; exact h15
    · have fm : FM s k q Im (h_u M4 0 31 (Im1 0 31)) := fun c i w1 w2 w3 w4 => by rw [hu_fr (by omega), fM4 c i (by omega)]; exact x6 c i w1 w2 w3 (by omega)
      obtain ⟨v, Ic', Im', p', e', b1, b2, b3, b4, b5, b6, b7, b8⟩ := bad2 v1 Ic1 M4 p1 e1 a1 (tkP_of x3 (fun _ _ => rfl) (fun _ _ _ _ => rfl) (fun i _ _ => fM4 0 i (by omega)) (fun i => fM4 1 i (by omega))) (by omega) x7 x8 x4 x5 (Im1 0 31) fm
      have hM : mM_readWays_152 (mM_readBody (g0 + 1)) (Im1 0 31) (nI s) (-1 : Int32) (h_u M4 0 31 (nI cc)) = some (h_u (h_u (h_u M4 0 31 (nI cc)) 14 s (-1 : Int32)) 0 31 (if (nI cc) < Im1 0 31 then Im1 0 31 else nI cc)) := by
        unfold mM_readWays_152
        rw [hg_in _ (by omega) (by omega), hl_eq, nI_clamp (by omega), hl_eq, hu_fr (by omega), h_u_at]
      refine ⟨v, Ic', h_u (h_u (h_u M4 0 31 (nI cc)) 14 s (-1 : Int32)) 0 31 (if (nI cc) < Im1 0 31 then Im1 0 31 else nI cc), p', e', by rw [topC]; exact b1, ?_, ?_, b4, b5, fun c i w1 w2 w3 w4 => ?_, b7, fun z => by omega⟩
      · rw [topM, if_neg (fun w => he1 ((wr_m1 (k4 (nI cc))).mp w))]
        exact hM
      · have e2 : mM_readWays_152 (mM_readBody (g0 + 1)) (Im1 0 31) (nI s) (-1 : Int32) (h_u M4 0 31 (Im1 0 31)) = some (h_u (h_u (h_u M4 0 31 (Im1 0 31)) 14 s (-1 : Int32)) 0 31 (Im1 0 31)) := by
          unfold mM_readWays_152
          rw [hg_in _ (by omega) (by omega), hl_eq, nI_clamp (by omega), hl_eq, hu_fr (by omega), h_u_at]
          have e3 : (if Im1 0 31 < Im1 0 31 then Im1 0 31 else Im1 0 31) = Im1 0 31 := by split <;> rfl
          rw [e3]
        rw [e2] at b2
        have b2' := (Option.some.inj b2).symm
        subst b2'
        exact tkP_of b3 (fun _ _ => rfl) (fun _ _ _ _ => rfl) (fun i _ _ => by rw [hu_fr (by omega), hu_fr (by omega), hu_fr (by omega), hu_fr (by omega), hu_fr (by omega), hu_fr (by omega)]) (fun i => by rw [hu_fr (by omega), hu_fr (by omega), hu_fr (by omega), hu_fr (by omega), hu_fr (by omega), hu_fr (by omega)])
      · rw [hu_fr (by omega), hu_fr (by omega), hu_fr (by omega), fM4 c i (by omega)]; exact x6 c i w1 w2 w3 (by omega)
  · obtain ⟨a1, ha1, ha1'⟩ := hA
    obtain ⟨M4, hM4⟩ : ∃ J, J = h_u (h_u Im 13 s (-1 : Int32)) 0 31 (Im 0 31) := ⟨_, rfl⟩
    have fM4 : ∀ c i, (c ≠ 13 ∨ i ≠ s) → M4 c i = Im c i := fun c i w => by
      by_cases q2 : c = 0 ∧ i = 31
      · obtain ⟨rfl, rfl⟩ := q2; rw [hM4, h_u_at]
      · rw [hM4, hu_fr (by omega), hu_fr w]
    have k4 : tkP T N n p e Ic (h_u Im 13 s (-1 : Int32)) := tkP_of h (fun _ _ => rfl) (fun _ _ _ _ => rfl) (fun i _ _ => hu_fr (by omega)) (fun i => hu_fr (by omega))
    have fm : FM s k q Im (h_u (h_u Im 13 s (-1 : Int32)) 0 31 (Im 0 31)) := fun c i w1 w2 w3 w4 => by rw [← hM4]; exact fM4 c i (by omega)
    obtain ⟨v, Ic', Im', p', e', b1, b2, b3, b4, b5, b6, b7, b8⟩ := bad2 (nI cc) Ic (h_u Im 13 s (-1 : Int32)) p e a1 k4 (by omega) ha1 ha1' (Nat.le_refl _) (fun _ _ _ _ => rfl) (Im 0 31) fm
    refine ⟨v, Ic', Im', p', e', ?_, ?_, b3, b4, b5, b6, b7, fun z => by omega⟩
    · unfold mLt_readWays
      rw [block_bad h (by omega), Option.bind_some, hl_eq]
      exact b1
    · have k5 : tkP T N n p e Ic (h_u (h_u Im 13 s (-1 : Int32)) 0 31 (Im 0 31)) := tkP_of k4 (fun _ _ => rfl) (fun _ _ _ _ => rfl) (fun i _ _ => hu_fr (by omega)) (fun i => hu_fr (by omega))
      unfold mM_readWays_106
      rw [hl_eq, body_bad h (by omega), Option.bind_some, hg_in _ (by omega) (by omega), hl_eq, nI_clamp (by omega), hl_eq, hl_eq, hu_fr (show (0 : Nat) ≠ 13 ∨ 31 ≠ s by omega), if_neg (fun w => he ((wr_m1 k5).mp w))]
      exact b2
end St
