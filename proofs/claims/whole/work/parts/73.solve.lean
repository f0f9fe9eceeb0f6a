/-! The equations as rows; how large what comes of them is; the class's solution. -/
theorem sum_sel (f : Nat → Bool) (g : Nat → Int) : ∀ n, sumN (cnt f n) (fun j => g (sel f n j)) = sumN n (fun t => if f t = true then g t else 0)
  | 0 => rfl
  | n + 1 => by
    rw [sumN, ← sum_sel f g n, cnt]
    have e : ∀ j, j < cnt f n → g (sel f (n + 1) j) = g (sel f n j) := fun j hj => by
      rw [sel, if_neg (by omega)]
    by_cases h : f n = true
    · rw [if_pos h, if_pos h, sumN, sumN_congr e]
      rw [sel, if_pos ⟨h, rfl⟩]
    · rw [if_neg h, if_neg h, Nat.add_zero, sumN_congr e]
      omega
theorem sum_each {n : Nat} {f g : Nat → Int} (h : ∀ i, i < n → f i ≤ g i) (hs : sumN n g ≤ sumN n f) : ∀ i, i < n → f i = g i := by
  induction n with
  | zero => intro i hi; omega
  | succ n ih =>
    intro i hi
    have h1 := sumN_le (n := n) (fun i hi => h i (by omega))
    have h2 := h n (by omega)
    rw [sumN, sumN] at hs
    by_cases e : i = n
    · subst e; omega
    · exact ih (fun i hi => h i (by omega)) (by omega) i (by omega)
def eP (D : rD) (p : Nat) (f : Nat → Bool) (i j : Nat) : Int := (pW D p (sel f (D 0 0) i) (sel f (D 0 0) j) : Int)
/-- labels: columns below m, 20: paid, 21: ends -/
def eR (D : rD) (p : Nat) (f : Nat → Bool) (i : Nat) : dR := fun c => if c < cnt f (D 0 0) then (if c = i then 4 else 0) - eP D p f i c else if c = 20 then (D 3 (pSl D p (sel f (D 0 0) i)) : Int) else if c = 21 then (D 4 (pSl D p (sel f (D 0 0) i)) : Int) + (pO D p (sel f (D 0 0) i) (D 0 0) : Int) else 0
section Eq
variable {D : rD} {p : Nat} {f : Nat → Bool}
theorem row_sum (hD : rOk D) {s : Nat} (hs : s < D 0 0) (hin : pIn D s = true) : (D 4 (pSl D p s) : Int) + sumN (D 0 0) (fun t => (pW D p s t : Int)) = 4 := by
  have hi : 0 < D 1 s := by simpa [pIn] using hin
  have h := (hD.2.2.2.2 s hs _ (pCh_lt (p := p) hi)).2.2.2.2
  have h2 := sumU_int (D 0 0) (fun t => D 5 (10 * (8 * s + pCh D p s) + t))
  have e : sumN (D 0 0) (fun t => (pW D p s t : Int)) = sumN (D 0 0) (fun i => ((D 5 (10 * (8 * s + pCh D p s) + i) : Nat) : Int)) := rfl
  rw [e, ← h2]
  have e2 : D 4 (pSl D p s) = D 4 (8 * s + pCh D p s) := rfl
  rw [e2]
  omega
theorem esc_f (hD : rOk D) (hf : ∀ u, f u = true → pPs D p u = true) : escP (cnt f (D 0 0)) (eP D p f) := by
  intro S ⟨i0, hi0, hS0⟩
  apply Classical.byContradiction
  intro hno
  have hge : ∀ i, i < cnt f (D 0 0) → S i = true → 4 ≤ sumN (cnt f (D 0 0)) (fun j => if S j = true then eP D p f i j else 0) := fun i hi hSi => by
    by_cases h : sumN (cnt f (D 0 0)) (fun j => if S j = true then eP D p f i j else 0) < 4
    · exact absurd ⟨i, hi, hSi, h⟩ hno
    · omega
  have hps : ∀ u, f u = true → pIn D u = true ∧ pSt D p u = false := fun u hu => by
    have := hf u hu
    unfold pPs at this
    simpa using this
  have hT : ∀ s, (s < D 0 0 ∧ f s = true ∧ S (cnt f s) = true) → pLv D p s = false ∧ ∀ t, t < D 0 0 → 0 < pW D p s t → (t < D 0 0 ∧ f t = true ∧ S (cnt f t) = true) := by
    intro s ⟨h1, h2, h3⟩
    have hg := hge (cnt f s) (cnt_lt f h1 h2) h3
    have e1 : sumN (cnt f (D 0 0)) (fun j => if S j = true then eP D p f (cnt f s) j else 0) = sumN (cnt f (D 0 0)) (fun j => (fun t => if S (cnt f t) = true then (pW D p s t : Int) else 0) (sel f (D 0 0) j)) := sumN_congr (fun j hj => by
      unfold eP
      rw [sel_cnt f h1 h2]
      show _ = if S (cnt f (sel f (D 0 0) j)) = true then _ else _
      rw [(sel_spec f (D 0 0) j hj).2.2])
    rw [e1, sum_sel f (fun t => if S (cnt f t) = true then (pW D p s t : Int) else 0)] at hg
    have hrow := row_sum (p := p) hD h1 (hps s h2).1
    have hle : ∀ t, t < D 0 0 → (if f t = true then (if S (cnt f t) = true then (pW D p s t : Int) else 0) else 0) ≤ (pW D p s t : Int) := fun t _ => by
      split
      · split
        · exact Int.le_refl _
        · omega
      · omega
    have heq := sum_each hle (by omega)
    have hsl := sumN_le hle
    refine ⟨?_, fun t ht hw => ?_⟩
    · unfold pLv
      have : D 4 (pSl D p s) = 0 := by omega
      rw [this]
      simp
    · have := heq t ht
      by_cases h4 : f t = true
      · rw [if_pos h4] at this
        by_cases h5 : S (cnt f t) = true
        · exact ⟨ht, h4, h5⟩
        · rw [if_neg h5] at this; omega
      · rw [if_neg h4] at this; omega
  obtain ⟨a, b, c⟩ := sel_spec f (D 0 0) i0 hi0
  obtain ⟨s, ⟨_, h2, _⟩, hst⟩ := closed_stays (D := D) (p := p) (S := fun s => s < D 0 0 ∧ f s = true ∧ S (cnt f s) = true) (s0 := sel f (D 0 0) i0) ⟨a, b, by rw [c]; exact hS0⟩ (fun s hs => ⟨hs.1, (hps s hs.2.1).1, (hT s hs).1⟩) (fun s hs t ht hw => (hT s hs).2 t ht hw)
  rw [(hps s h2).2] at hst
  exact absurd hst (by decide)
theorem eP_sum (hD : rOk D) (hf : ∀ u, f u = true → pIn D u = true) : ∀ i, i < cnt f (D 0 0) → sumN (cnt f (D 0 0)) (eP D p f i) ≤ 4 := by
  intro i hi
  obtain ⟨a, b, c⟩ := sel_spec f (D 0 0) i hi
  have e1 : sumN (cnt f (D 0 0)) (eP D p f i) = sumN (cnt f (D 0 0)) (fun j => (fun t => (pW D p (sel f (D 0 0) i) t : Int)) (sel f (D 0 0) j)) := rfl
  rw [e1, sum_sel f (fun t => (pW D p (sel f (D 0 0) i) t : Int))]
  have hrow := row_sum (p := p) hD a (hf _ b)
  have hle := sumN_le (n := D 0 0) (f := fun t => if f t = true then (pW D p (sel f (D 0 0) i) t : Int) else 0) (g := fun t => (pW D p (sel f (D 0 0) i) t : Int)) (fun t _ => by split <;> omega)
  omega
theorem eR_lead (i : Nat) (c : Nat) (hc : c < cnt f (D 0 0)) : eR D p f i c = (if c = i then 4 else 0) - eP D p f i c := by
  unfold eR
  rw [if_pos hc]
theorem eq_pos (hD : rOk D) (hf : ∀ u, f u = true → pPs D p u = true) : ∀ k, k ≤ cnt f (D 0 0) → 0 < dt (rsN (eR D p f) k) (csN k) :=
  lead_pos (p := eP D p f) (fun i _ j _ => Int.natCast_nonneg _) (eP_sum hD (fun u hu => by have := hf u hu; unfold pPs at this; rw [Bool.and_eq_true] at this; exact this.1)) (esc_f hD hf) (fun i _ c hc => eR_lead i c hc)
theorem eR_wOk (hD : rOk D) (hf : ∀ u, f u = true → pIn D u = true) {i : Nat} (hi : i < cnt f (D 0 0)) : wOk 4 (aRow (cnt f (D 0 0)) (eP D p f i) i) := aRow_ok hi (fun _ _ => Int.natCast_nonneg _) (eP_sum hD hf i hi)
end Eq
theorem dE_congr : ∀ (cs : List Nat) (r r' : dR) (D D' : List Nat → Int), (∀ c ∈ cs, r c = r' c) → (∀ l : List Nat, (∀ c ∈ l, c ∈ cs) → D l = D' l) → dE r D cs = dE r' D' cs
  | [], _, _, _, _, _, _ => rfl
  | c :: cs, r, r', D, D', h1, h2 => by
    simp only [dE]
    rw [h1 c List.mem_cons_self, h2 cs (fun x hx => List.mem_cons_of_mem _ hx)]
    rw [dE_congr cs r r' (fun l => D (c :: l)) (fun l => D' (c :: l)) (fun x hx => h1 x (List.mem_cons_of_mem _ hx)) (fun l hl => h2 (c :: l) (fun x hx => by
      rcases List.mem_cons.mp hx with e | e
      · rw [e]; exact List.mem_cons_self
      · exact List.mem_cons_of_mem _ (hl x e)))]
theorem dt_mapc {β : Type} (f g : β → dR) : ∀ (L : List β) (cs : List Nat), (∀ x ∈ L, ∀ c ∈ cs, f x c = g x c) → dt (L.map f) cs = dt (L.map g) cs
  | [], _, _ => rfl
  | x :: L, cs, h => by
    simp only [List.map_cons, dt_cons]
    exact dE_congr cs _ _ _ _ (fun c hc => h x List.mem_cons_self c hc) (fun l hl => dt_mapc f g L l (fun y hy c hc => h y (List.mem_cons_of_mem _ hy) c (hl c hc)))
theorem dA_nodup {D : List Nat → Int} (hD : dA D) : ∀ (cs pre : List Nat), ¬ cs.Nodup → D (pre ++ cs) = 0
  | [], _, h => absurd List.nodup_nil h
  | c :: cs, pre, h => by
    by_cases e : c ∈ cs
    · exact dA_dup hD c cs pre e
    · have h2 : ¬ cs.Nodup := fun hn => h (List.nodup_cons.mpr ⟨e, hn⟩)
      have := dA_nodup hD cs (pre ++ [c]) h2
      rw [List.append_assoc, List.singleton_append] at this
      exact this
theorem wB_le {B : Int} : ∀ (L : List (Int × dR)), (∀ x ∈ L, x.1 ≤ B) → wB L ≤ B * L.length
  | [], _ => by simp [wB]
  | x :: L, h => by
    have h1 := wB_le L (fun y hy => h y (List.mem_cons_of_mem _ hy))
    have h2 := h x List.mem_cons_self
    simp only [wB, List.length_cons]
    have : B * ((L.length + 1 : Nat) : Int) = B * (L.length : Int) + B := by
      have : ((L.length + 1 : Nat) : Int) = (L.length : Int) + 1 := by omega
      rw [this]; grind
    rw [this]
    omega
/-- how large: the label b besides those below m -/
theorem minor_le {D : rD} {p : Nat} {f : Nat → Bool} (hD : rOk D) (hf : ∀ u, f u = true → pIn D u = true) {b : Nat} (hb : b = 20 ∨ b = 21) (L : List Nat) (cs : List Nat) (hL : ∀ i ∈ L, i < cnt f (D 0 0)) (hl : L.length = cs.length) (hc : ∀ c ∈ cs, c < cnt f (D 0 0) ∨ c = b) (h0 : 0 < cs.length) : - (1920 * (cs.length : Int) * 4 ^ (cs.length - 1)) ≤ dt (L.map (eR D p f)) cs ∧ dt (L.map (eR D p f)) cs ≤ 1920 * (cs.length : Int) * 4 ^ (cs.length - 1) := by
  have hn := hD.2.1
  have hm := cnt_le f (D 0 0)
  have hpos : (0 : Int) ≤ 1920 * (cs.length : Int) * 4 ^ (cs.length - 1) := Int.mul_nonneg (by omega) (pow4_nn _)
  by_cases hnd : cs.Nodup
  · by_cases hbc : b ∈ cs
    · have hval : ∀ i, i < cnt f (D 0 0) → ∃ β : Int, 0 ≤ β ∧ β ≤ 1920 ∧ ∀ c, (c < cnt f (D 0 0) ∨ c = b) → eR D p f i c = dB b (β, aRow (cnt f (D 0 0)) (eP D p f i) i) c := by
        intro i hi
        obtain ⟨s1, s2, s3⟩ := sel_spec f (D 0 0) i hi
        have hin := hf _ s2
        have hi1 : 0 < D 1 (sel f (D 0 0) i) := by simpa [pIn] using hin
        obtain ⟨_, d3, d4, _⟩ := hD.2.2.2.2 _ s1 _ (pCh_lt (p := p) hi1)
        have d3 : D 3 (pSl D p (sel f (D 0 0) i)) ≤ 1920 := d3
        have hrow := row_sum (p := p) hD s1 hin
        have hO : (pO D p (sel f (D 0 0) i) (D 0 0) : Int) ≤ sumN (D 0 0) (fun t => (pW D p (sel f (D 0 0) i) t : Int)) := by
          unfold pO
          rw [sumU_int]
          exact sumN_le (fun t _ => by split <;> omega)
        refine ⟨if b = 20 then (D 3 (pSl D p (sel f (D 0 0) i)) : Int) else (D 4 (pSl D p (sel f (D 0 0) i)) : Int) + (pO D p (sel f (D 0 0) i) (D 0 0) : Int), ?_, ?_, fun c hcc => ?_⟩
        · split <;> omega
        · split <;> omega
        · unfold dB dU aRow dAt eR
          rcases hcc with hcc | rfl
          · have hne : ¬ b = c := by rcases hb with rfl | rfl <;> omega
            have hne2 : ¬ some b = some c := fun h => hne (Option.some.inj h)
            simp only [if_pos hcc, if_neg hne2]
            simp
          · have hne : ¬ c < cnt f (D 0 0) := by rcases hb with rfl | rfl <;> omega
            simp only [if_neg hne]
            rcases hb with rfl | rfl <;> simp
      have hex : ∃ β : Nat → Int, ∀ i, i < cnt f (D 0 0) → 0 ≤ β i ∧ β i ≤ 1920 ∧ ∀ c, (c < cnt f (D 0 0) ∨ c = b) → eR D p f i c = dB b (β i, aRow (cnt f (D 0 0)) (eP D p f i) i) c := by
        refine ⟨fun i => if h : i < cnt f (D 0 0) then Classical.choose (hval i h) else 0, fun i hi => ?_⟩
        simp only [dif_pos hi]
        exact Classical.choose_spec (hval i hi)
      obtain ⟨β, hβ⟩ := hex
      have e1 : dt (L.map (eR D p f)) cs = dt ((L.map (fun i => (β i, aRow (cnt f (D 0 0)) (eP D p f i) i))).map (dB b)) cs := by
        rw [List.map_map]
        exact dt_mapc _ _ L cs (fun i hi c hcc => (hβ i (hL i hi)).2.2 c (hc c hcc))
      have hB := bndB hnd hbc (L.map (fun i => (β i, aRow (cnt f (D 0 0)) (eP D p f i) i))) [] (by simpa using hl) (fun r hr => absurd hr List.not_mem_nil) (fun x hx => by
        obtain ⟨i, hi, rfl⟩ := List.mem_map.mp hx
        refine ⟨(hβ i (hL i hi)).1, eR_wOk hD hf (hL i hi), ?_⟩
        have hne : ¬ b < cnt f (D 0 0) := by rcases hb with rfl | rfl <;> omega
        show aRow _ _ _ b = 0
        unfold aRow
        rw [if_neg hne])
      rw [List.nil_append, ← e1] at hB
      have hW := wB_le (B := 1920) (L.map (fun i => (β i, aRow (cnt f (D 0 0)) (eP D p f i) i))) (fun x hx => by
        obtain ⟨i, hi, rfl⟩ := List.mem_map.mp hx
        exact (hβ i (hL i hi)).2.1)
      rw [List.length_map, hl] at hW
      have hK := Int.mul_le_mul_of_nonneg_right hW (pow4_nn (cs.length - 1))
      omega
    · have hc2 : ∀ c ∈ cs, c < cnt f (D 0 0) := fun c hcc => by
        rcases hc c hcc with h | h
        · exact h
        · rw [h] at hcc; exact absurd hcc hbc
      have e1 : dt (L.map (eR D p f)) cs = dt (L.map (fun i => aRow (cnt f (D 0 0)) (eP D p f i) i)) cs := dt_mapc _ _ L cs (fun i hi c hcc => by
        unfold eR aRow
        rw [if_pos (hc2 c hcc), if_pos (hc2 c hcc)])
      have hB := bndA (rs := L.map (fun i => aRow (cnt f (D 0 0)) (eP D p f i) i)) (cs := cs) (by simpa using hl) hnd (fun r hr => by
        obtain ⟨i, hi, rfl⟩ := List.mem_map.mp hr
        exact eR_wOk hD hf (hL i hi))
      rw [← e1, List.length_map, hl] at hB
      have e2 : (4 : Int) ^ cs.length = 4 * 4 ^ (cs.length - 1) := by
        have : cs.length = (cs.length - 1) + 1 := by omega
        conv => lhs; rw [this, Int.pow_succ, Int.mul_comm]
      have hK : 4 * (4 : Int) ^ (cs.length - 1) ≤ 1920 * (cs.length : Int) * 4 ^ (cs.length - 1) := Int.mul_le_mul_of_nonneg_right (by omega) (pow4_nn _)
      omega
  · have h0 := dA_nodup (dt_anti (L.map (eR D p f))) cs [] hnd
    rw [List.nil_append] at h0
    omega
