/-! How large such determinants are; where they aren't 0. -/
theorem dE_all0 (a : dR) : ∀ (cs : List Nat) (D : List Nat → Int), (∀ c ∈ cs, a c = 0) → dE a D cs = 0
  | [], _, _ => rfl
  | c :: cs, D, h => by
    simp only [dE]
    rw [h c List.mem_cons_self, dE_all0 a cs _ (fun c hc => h c (List.mem_cons_of_mem _ hc))]
    simp
theorem dE_one (a : dR) (p : Nat) (v : List Nat) : ∀ (u : List Nat) (D : List Nat → Int), (∀ c ∈ u ++ v, a c = 0) → dE a D (u ++ p :: v) = a p * D (u ++ v) ∨ dE a D (u ++ p :: v) = - (a p * D (u ++ v))
  | [], D, h => by
    left
    simp only [List.nil_append, dE]
    rw [dE_all0 a v _ (fun c hc => h c (List.mem_append_right _ hc))]
    omega
  | c :: u, D, h => by
    simp only [List.cons_append, dE]
    have h0 : a c = 0 := h c List.mem_cons_self
    rcases dE_one a p v u (fun l => D (c :: l)) (fun x hx => h x (List.mem_cons_of_mem _ hx)) with q | q
    · right; rw [q, h0]; omega
    · left; rw [q, h0]; omega
theorem dt_front (r : dR) (l2 : List dR) : ∀ (l1 : List dR), (∀ cs, dt (l1 ++ r :: l2) cs = dt (r :: (l1 ++ l2)) cs) ∨ (∀ cs, dt (l1 ++ r :: l2) cs = - dt (r :: (l1 ++ l2)) cs)
  | [] => Or.inl (fun _ => rfl)
  | r0 :: l1 => by
    rcases dt_front r l2 l1 with q | q
    · right
      intro cs
      have e : dt (l1 ++ r :: l2) = dt (r :: (l1 ++ l2)) := funext q
      rw [List.cons_append, dt_cons, e, ← dt_cons, dt_swap0]
      rfl
    · left
      intro cs
      have e : dt (l1 ++ r :: l2) = (fun l => - dt (r :: (l1 ++ l2)) l) := funext q
      rw [List.cons_append, dt_cons, e, dE_neg, ← dt_cons r0 (r :: (l1 ++ l2)), dt_swap0, Int.neg_neg]
      rfl
theorem dt_row (n : Nat) (w : Nat → Int) (a : Nat → dR) (l2 : List dR) : ∀ (l1 : List dR) (cs : List Nat), dt (l1 ++ (fun c => sumN n (fun i => w i * a i c)) :: l2) cs = sumN n (fun i => w i * dt (l1 ++ a i :: l2) cs)
  | [], cs => by
    simp only [List.nil_append, dt_cons]
    induction n with
    | zero => simp only [sumN]; exact dE_all0 _ cs _ (fun _ _ => rfl)
    | succ n ih =>
      simp only [sumN]
      have h := dE_linr (fun c => sumN n (fun i => w i * a i c)) (a n) 1 (w n) cs (dt l2)
      have e : (fun c => 1 * (fun c => sumN n (fun i => w i * a i c)) c + w n * a n c) = (fun c => sumN n (fun i => w i * a i c) + w n * a n c) := by funext c; simp
      rw [e] at h
      rw [h, ih]
      omega
  | r0 :: l1, cs => by
    simp only [List.cons_append, dt_cons]
    have e : dt (l1 ++ (fun c => sumN n (fun i => w i * a i c)) :: l2) = (fun l => sumN n (fun i => w i * dt (l1 ++ a i :: l2) l)) := funext (dt_row n w a l2 l1)
    rw [e]
    exact dE_sum r0 cs w (fun i => dt (l1 ++ a i :: l2)) n
/-- a row with at most one 1 and at most one -1 -/
def dAt (p q : Option Nat) : dR := fun c => (if p = some c then 1 else 0) - (if q = some c then 1 else 0)
theorem sum_ind (p : Option Nat) : ∀ cs : List Nat, cs.Nodup → sumN cs.length (fun i => if p = some (cs.getD i 0) then 1 else 0) = if ∃ c ∈ cs, p = some c then 1 else 0
  | [], _ => by simp [sumN]
  | c :: cs, h => by
    rw [List.length_cons, sumN_first]
    have h2 := List.nodup_cons.mp h
    simp only [List.getD_cons_zero, List.getD_cons_succ]
    rw [sum_ind p cs h2.2]
    by_cases e : p = some c
    · subst e
      have hn : ¬ ∃ c1 ∈ cs, some c = some c1 := by
        rintro ⟨c1, h1, h3⟩
        cases h3
        exact h2.1 h1
      simp [hn, h2.1]
    · simp [e]
theorem dX_dAt (p q : Option Nat) (cs : List Nat) (h : cs.Nodup) : dX (dAt p q) cs (fun _ => 1) = (if ∃ c ∈ cs, p = some c then 1 else 0) - (if ∃ c ∈ cs, q = some c then 1 else 0) := by
  unfold dX
  have e : sumN cs.length (fun i => dAt p q (cs.getD i 0) * 1) = sumN cs.length (fun i => 1 * (if p = some (cs.getD i 0) then 1 else 0) + (-1) * (if q = some (cs.getD i 0) then 1 else 0)) := sumN_congr (fun i _ => by unfold dAt; omega)
  rw [e, sumN_lin, sum_ind p cs h, sum_ind q cs h]
  omega
theorem dt_unimod : ∀ (n : Nat) (rs : List dR) (cs : List Nat), rs.length = n → cs.length = n → cs.Nodup → (∀ r ∈ rs, ∃ p q, r = dAt p q) → -1 ≤ dt rs cs ∧ dt rs cs ≤ 1
  | 0, rs, cs, h1, h2, _, _ => by
    have e1 : rs = [] := List.length_eq_zero_iff.mp h1
    have e2 : cs = [] := List.length_eq_zero_iff.mp h2
    subst e1; subst e2
    simp [dt]
  | n + 1, rs, cs, h1, h2, hn, ha => by
    by_cases hA : ∃ r ∈ rs, dX r cs (fun _ => 1) ≠ 0
    · obtain ⟨r, hr, hx⟩ := hA
      obtain ⟨p, q, rfl⟩ := ha r hr
      rw [dX_dAt p q cs hn] at hx
      obtain ⟨l1, l2, rfl⟩ := List.append_of_mem hr
      have main : ∀ c ∈ cs, (∀ c' ∈ cs, c' ≠ c → dAt p q c' = 0) → (dAt p q c = 1 ∨ dAt p q c = -1) → -1 ≤ dt (l1 ++ dAt p q :: l2) cs ∧ dt (l1 ++ dAt p q :: l2) cs ≤ 1 := by
        intro c hc hz hv
        obtain ⟨u, v, rfl⟩ := List.append_of_mem hc
        have hnd := hn
        rw [List.nodup_append] at hnd
        obtain ⟨n1, n2, n3⟩ := hnd
        have n4 := List.nodup_cons.mp n2
        have hnuv : (u ++ v).Nodup := List.nodup_append.mpr ⟨n1, n4.2, fun a ha b hb => n3 a ha b (List.mem_cons_of_mem _ hb)⟩
        have hz2 : ∀ x ∈ u ++ v, dAt p q x = 0 := by
          intro x hxm
          refine hz x ?_ ?_
          · rcases List.mem_append.mp hxm with h | h
            · exact List.mem_append_left _ h
            · exact List.mem_append_right _ (List.mem_cons_of_mem _ h)
          · rintro rfl
            rcases List.mem_append.mp hxm with h | h
            · exact n3 x h x List.mem_cons_self rfl
            · exact n4.1 h
        have ih := dt_unimod n (l1 ++ l2) (u ++ v) (by simp at h1 ⊢; omega) (by simp at h2 ⊢; omega) hnuv (fun r hr => ha r (by
          rcases List.mem_append.mp hr with h | h
          · exact List.mem_append_left _ h
          · exact List.mem_append_right _ (List.mem_cons_of_mem _ h)))
        have hE : dt (dAt p q :: (l1 ++ l2)) (u ++ c :: v) = dt (l1 ++ l2) (u ++ v) ∨ dt (dAt p q :: (l1 ++ l2)) (u ++ c :: v) = - dt (l1 ++ l2) (u ++ v) := by
          rw [dt_cons]
          rcases dE_one (dAt p q) c v u (dt (l1 ++ l2)) hz2 with h | h <;> rcases hv with h' | h' <;> rw [h, h'] <;> omega
        rcases dt_front (dAt p q) l2 l1 with h | h <;> rw [h] <;> rcases hE with h' | h' <;> rw [h'] <;> omega
      by_cases hp : ∃ c ∈ cs, p = some c
      · by_cases hq : ∃ c ∈ cs, q = some c
        · rw [if_pos hp, if_pos hq] at hx
          exact absurd rfl hx
        · obtain ⟨c, hc, rfl⟩ := hp
          refine main c hc (fun c' hc' hne => ?_) (Or.inl ?_)
          · have h1 : ¬ some c = some c' := fun h => hne (Option.some.inj h).symm
            have h2 : ¬ q = some c' := fun h => hq ⟨c', hc', h⟩
            simp only [dAt, if_neg h1, if_neg h2]
            rfl
          · have h2 : ¬ q = some c := fun h => hq ⟨c, hc, h⟩
            simp [dAt, h2]
      · by_cases hq : ∃ c ∈ cs, q = some c
        · obtain ⟨c, hc, rfl⟩ := hq
          refine main c hc (fun c' hc' hne => ?_) (Or.inr ?_)
          · have h1 : ¬ some c = some c' := fun h => hne (Option.some.inj h).symm
            have h2 : ¬ p = some c' := fun h => hp ⟨c', hc', h⟩
            simp only [dAt, if_neg h1, if_neg h2]
            rfl
          · have h2 : ¬ p = some c := fun h => hp ⟨c, hc, h⟩
            simp [dAt, h2]
        · rw [if_neg hp, if_neg hq] at hx
          exact absurd rfl hx
    · have h0 : dt rs cs = 0 := det_zero (x := fun _ => 1) (fun r hr => by
        by_cases e : dX r cs (fun _ => 1) = 0
        · exact e
        · exact absurd ⟨r, hr, e⟩ hA) (i := 0) (by omega) (by decide)
      omega
/-- a row that is made of such with weights W in all -/
def wOk (W : Int) (r : dR) : Prop := ∃ (n : Nat) (w : Nat → Int) (p q : Nat → Option Nat), (∀ i, i < n → 0 ≤ w i) ∧ sumN n w ≤ W ∧ r = fun c => sumN n (fun i => w i * dAt (p i) (q i) c)
theorem sumN_le {n : Nat} {f g : Nat → Int} (h : ∀ i, i < n → f i ≤ g i) : sumN n f ≤ sumN n g := by
  induction n with
  | zero => exact Int.le_refl _
  | succ n ih => simp only [sumN]; have := ih (fun i hi => h i (by omega)); have := h n (by omega); omega
theorem sumN_bnd {n : Nat} {w x : Nat → Int} {K W : Int} (hw : ∀ i, i < n → 0 ≤ w i) (hW : sumN n w ≤ W) (hK : 0 ≤ K) (hx : ∀ i, i < n → - K ≤ x i ∧ x i ≤ K) : - (W * K) ≤ sumN n (fun i => w i * x i) ∧ sumN n (fun i => w i * x i) ≤ W * K := by
  have h1 : sumN n (fun i => w i * x i) ≤ sumN n (fun i => K * w i) := sumN_le (fun i hi => by
    have := Int.mul_le_mul_of_nonneg_left (hx i hi).2 (hw i hi)
    rw [Int.mul_comm K]
    exact this)
  have h2 : sumN n (fun i => (-K) * w i) ≤ sumN n (fun i => w i * x i) := sumN_le (fun i hi => by
    have := Int.mul_le_mul_of_nonneg_left (hx i hi).1 (hw i hi)
    rw [Int.mul_comm (-K)]
    exact this)
  rw [sumN_mul] at h1 h2
  have h3 : K * sumN n w ≤ W * K := by rw [Int.mul_comm W]; exact Int.mul_le_mul_of_nonneg_left hW hK
  constructor
  · have : -K * sumN n w = - (K * sumN n w) := by grind
    omega
  · omega
def wProd : List (Int × dR) → Int
  | [] => 1
  | x :: l => x.1 * wProd l
theorem wProd_nn : ∀ l : List (Int × dR), (∀ x ∈ l, 0 ≤ x.1) → 0 ≤ wProd l
  | [], _ => by decide
  | x :: l, h => Int.mul_nonneg (h x List.mem_cons_self) (wProd_nn l (fun y hy => h y (List.mem_cons_of_mem _ hy)))
theorem dt_bound : ∀ (l2 : List (Int × dR)) (l1 : List dR) (cs : List Nat), l1.length + l2.length = cs.length → cs.Nodup → (∀ r ∈ l1, ∃ p q, r = dAt p q) → (∀ x ∈ l2, 0 ≤ x.1 ∧ wOk x.1 x.2) → - wProd l2 ≤ dt (l1 ++ l2.map Prod.snd) cs ∧ dt (l1 ++ l2.map Prod.snd) cs ≤ wProd l2
  | [], l1, cs, hl, hn, ha, _ => by
    have := dt_unimod cs.length l1 cs (by simpa using hl) rfl hn ha
    simp [wProd]
    exact this
  | (W, r) :: l2, l1, cs, hl, hn, ha, hw => by
    obtain ⟨hW0, n, w, p, q, hw0, hws, rfl⟩ := hw _ List.mem_cons_self
    simp only [List.map_cons]
    rw [dt_row n w (fun i => dAt (p i) (q i))]
    simp only [wProd]
    refine sumN_bnd hw0 hws (wProd_nn l2 (fun x hx => (hw x (List.mem_cons_of_mem _ hx)).1)) (fun i hi => ?_)
    have ih := dt_bound l2 (l1 ++ [dAt (p i) (q i)]) cs (by simp at hl ⊢; omega) hn (fun r hr => by
      rcases List.mem_append.mp hr with h | h
      · exact ha r h
      · exact ⟨p i, q i, List.mem_singleton.mp h⟩) (fun x hx => hw x (List.mem_cons_of_mem _ hx))
    rw [List.append_assoc, List.singleton_append] at ih
    exact ih
def dU (b : Nat) : dR := dAt (some b) none
theorem wOk_U (b : Nat) : wOk 1 (dU b) := ⟨1, fun _ => 1, fun _ => some b, fun _ => none, fun _ _ => Int.one_nonneg, Int.le_refl _, by funext c; simp [sumN, dU]⟩
theorem dt_dupU {l1 X : List dR} {r : dR} (h : r ∈ X) (cs : List Nat) : dt (l1 ++ r :: X) cs = 0 := by
  have h0 : dt (r :: (l1 ++ X)) cs = 0 := dt_dupr r _ cs (List.mem_append_right _ h)
  rcases dt_front r X l1 with q | q <;> rw [q, h0]
  rfl
/-- rows with a part at the label b -/
def dB (b : Nat) (x : Int × dR) : dR := fun c => x.2 c + x.1 * dU b c
theorem dt_addrow (l1 l2 : List dR) (r1 r2 : dR) (k : Int) (cs : List Nat) : dt (l1 ++ (fun c => r1 c + k * r2 c) :: l2) cs = dt (l1 ++ r1 :: l2) cs + k * dt (l1 ++ r2 :: l2) cs := by
  have h := dt_row 2 (fun i => if i = 0 then 1 else k) (fun i => if i = 0 then r1 else r2) l2 l1 cs
  simp only [sumN] at h
  simp at h
  exact h
theorem dt_stripB (b : Nat) : ∀ (L : List (Int × dR)) (l1 l3 : List dR) (cs : List Nat), dt (l1 ++ dU b :: (l3 ++ L.map (dB b))) cs = dt (l1 ++ dU b :: (l3 ++ L.map Prod.snd)) cs
  | [], l1, l3, cs => rfl
  | x :: L, l1, l3, cs => by
    simp only [List.map_cons]
    have e : dB b x = fun c => x.2 c + x.1 * dU b c := rfl
    have h1 := dt_addrow (l1 ++ dU b :: l3) (L.map (dB b)) x.2 (dU b) x.1 cs
    rw [List.append_assoc, List.append_assoc, List.append_assoc, List.cons_append, List.cons_append, List.cons_append] at h1
    rw [e, h1, dt_dupU (List.mem_append_right _ List.mem_cons_self)]
    have ih := dt_stripB b L l1 (l3 ++ [x.2]) cs
    rw [List.append_assoc, List.append_assoc, List.singleton_append, List.singleton_append] at ih
    rw [ih]
    omega
def wB : List (Int × dR) → Int
  | [] => 0
  | x :: l => x.1 + wB l
theorem pow4_nn (k : Nat) : (0 : Int) ≤ 4 ^ k := Int.le_of_lt (Int.pow_pos (by decide))
theorem wProd4 : ∀ (l : List dR), wProd (l.map (fun r => ((4 : Int), r))) = 4 ^ l.length
  | [] => rfl
  | r :: l => by simp only [List.map_cons, wProd, List.length_cons]; rw [wProd4 l, Int.pow_succ, Int.mul_comm]
theorem wProd_app : ∀ (a b : List (Int × dR)), wProd (a ++ b) = wProd a * wProd b
  | [], b => by simp [wProd]
  | x :: a, b => by simp only [List.cons_append, wProd]; rw [wProd_app a b, Int.mul_assoc]
theorem map_snd4 (l : List dR) : (l.map (fun r => ((4 : Int), r))).map Prod.snd = l := by
  rw [List.map_map]
  have : (Prod.snd ∘ fun r : dR => ((4 : Int), r)) = id := rfl
  rw [this, List.map_id]
/-- no column b -/
theorem bndA {rs : List dR} {cs : List Nat} (hl : rs.length = cs.length) (hn : cs.Nodup) (h : ∀ r ∈ rs, wOk 4 r) : - (4 : Int) ^ rs.length ≤ dt rs cs ∧ dt rs cs ≤ 4 ^ rs.length := by
  have h1 := dt_bound (rs.map (fun r => ((4 : Int), r))) [] cs (by simpa using hl) hn (fun r hr => absurd hr List.not_mem_nil) (fun x hx => by
    obtain ⟨r, hr, rfl⟩ := List.mem_map.mp hx
    exact ⟨(by decide : (0 : Int) ≤ 4), h r hr⟩)
  rw [map_snd4, wProd4, List.nil_append] at h1
  exact h1
/-- with the column b -/
theorem bndB {b : Nat} {cs : List Nat} (hn : cs.Nodup) (hb : b ∈ cs) : ∀ (L : List (Int × dR)) (l1 : List dR), l1.length + L.length = cs.length → (∀ r ∈ l1, wOk 4 r ∧ r b = 0) → (∀ x ∈ L, 0 ≤ x.1 ∧ wOk 4 x.2 ∧ x.2 b = 0) → - (wB L * 4 ^ (cs.length - 1)) ≤ dt (l1 ++ L.map (dB b)) cs ∧ dt (l1 ++ L.map (dB b)) cs ≤ wB L * 4 ^ (cs.length - 1)
  | [], l1, hl, h1, h2 => by
    obtain ⟨u, v, rfl⟩ := List.append_of_mem hb
    have h0 := dt_col 1 b 0 (fun _ => 0) (fun _ => 0) l1 (fun r hr => by rw [(h1 r hr).2]; rfl) u v
    simp only [sumN] at h0
    simp only [List.map_nil, List.append_nil, wB]
    omega
  | x :: L, l1, hl, h1, h2 => by
    obtain ⟨hx0, hx1, hx2⟩ := h2 x List.mem_cons_self
    simp only [List.map_cons]
    have e : dB b x = fun c => x.2 c + x.1 * dU b c := rfl
    rw [e, dt_addrow]
    have ih := bndB hn hb L (l1 ++ [x.2]) (by simp at hl ⊢; omega) (fun r hr => by
      rcases List.mem_append.mp hr with h | h
      · exact h1 r h
      · rw [List.mem_singleton.mp h]; exact ⟨hx1, hx2⟩) (fun y hy => h2 y (List.mem_cons_of_mem _ hy))
    rw [List.append_assoc, List.singleton_append] at ih
    have hs := dt_stripB b L l1 [] cs
    simp only [List.nil_append] at hs
    rw [hs]
    have hbd := dt_bound (l1.map (fun r => ((4 : Int), r)) ++ (1, dU b) :: L.map (fun x => ((4 : Int), x.2))) [] cs (by simp at hl ⊢; omega) hn (fun r hr => absurd hr List.not_mem_nil) (fun y hy => by
      rcases List.mem_append.mp hy with h | h
      · obtain ⟨r, hr, rfl⟩ := List.mem_map.mp h
        exact ⟨(by decide : (0 : Int) ≤ 4), (h1 r hr).1⟩
      · rcases List.mem_cons.mp h with h | h
        · subst h
          exact ⟨(by decide : (0 : Int) ≤ 1), wOk_U b⟩
        · obtain ⟨z, hz, rfl⟩ := List.mem_map.mp h
          exact ⟨(by decide : (0 : Int) ≤ 4), (h2 z (List.mem_cons_of_mem _ hz)).2.1⟩)
    have e2 : L.map (fun x => ((4 : Int), x.2)) = (L.map Prod.snd).map (fun r => ((4 : Int), r)) := by rw [List.map_map]; rfl
    rw [wProd_app, wProd, e2, wProd4, wProd4, List.map_append, map_snd4, List.map_cons, map_snd4, List.nil_append] at hbd
    have e3 : (4 : Int) ^ l1.length * (1 * 4 ^ (L.map Prod.snd).length) = 4 ^ (cs.length - 1) := by
      rw [Int.one_mul, ← Int.pow_add]
      congr 1
      simp at hl ⊢
      omega
    rw [e3] at hbd
    simp only [wB]
    generalize (4 : Int) ^ (cs.length - 1) = K at *
    generalize dt (l1 ++ dU b :: L.map Prod.snd) cs = Y at *
    generalize dt (l1 ++ x.2 :: L.map (dB b)) cs = Z at *
    have g1 : x.1 * Y ≤ x.1 * K := Int.mul_le_mul_of_nonneg_left hbd.2 hx0
    have g2 : x.1 * (-K) ≤ x.1 * Y := Int.mul_le_mul_of_nonneg_left hbd.1 hx0
    have g3 : (x.1 + wB L) * K = x.1 * K + wB L * K := by grind
    have g4 : x.1 * (-K) = - (x.1 * K) := by grind
    rw [g3]
    omega
