def zb (x : Int32) : Int32 := if x = 0 then 0 else 1
abbrev hRel : Type := hI → hJ → (Bool × Bool) → hI → hJ → Prop
def stp_feed (Rel : hRel) : Prop := ∀ (Ic : hI) (Jc : hJ) (B : Bool × Bool) (Im : hI) (Jm : hJ), Rel Ic Jc B Im Jm → ∀ (v1 : Int32) (v2 : Int32) (v3 : Int32) (v4 : Int32) (v5 : Int32), ∃ (v : Int32) (Ic' : hI) (Im' : hI), mC_feed v1 v2 v3 v4 v5 Ic = some (v, Ic') ∧ mM_feed v1 v2 v3 v4 v5 Im = some (v, Im') ∧ Rel Ic' Jc B Im' Jm
def stp_end (Rel : hRel) : Prop := ∀ (Ic : hI) (Jc : hJ) (B : Bool × Bool) (Im : hI) (Jm : hJ), Rel Ic Jc B Im Jm → ∀ (v1 : Int32), ∃ (v : Int32) (Ic' : hI) (Im' : hI), mC_end v1 Ic = (v, Ic') ∧ mM_end v1 Im = (v, Im') ∧ Rel Ic' Jc B Im' Jm
def stp_fault (Rel : hRel) : Prop := ∀ (Ic : hI) (Jc : hJ) (B : Bool × Bool) (Im : hI) (Jm : hJ), Rel Ic Jc B Im Jm → ∀ (v1 : Int32), ∃ (v : Int32) (Ic' : hI) (Im' : hI), mC_fault v1 Ic B = some (v, Ic') ∧ mM_fault v1 Im = some (v, Im') ∧ Rel Ic' Jc B Im' Jm
def stp_loop (Rel : hRel) : Prop := ∀ (Ic : hI) (Jc : hJ) (B : Bool × Bool) (Im : hI) (Jm : hJ), Rel Ic Jc B Im Jm → ∃ (v : Int32) (Ic' : hI) (B' : Bool × Bool) (Im' : hI), mC_loop  Ic B = some (v, Ic', B') ∧ mM_loop  Im = some (v, Im') ∧ Rel Ic' Jc B' Im' Jm
def stp_guess (Rel : hRel) : Prop := ∀ (Ic : hI) (Jc : hJ) (B : Bool × Bool) (Im : hI) (Jm : hJ), Rel Ic Jc B Im Jm → ∃ (v : Int32) (Ic' : hI) (B' : Bool × Bool) (Im' : hI), mC_guess  Ic B = some (v, Ic', B') ∧ mM_guess  Im = some (v, Im') ∧ Rel Ic' Jc B' Im' Jm
def stp_rule (Rel : hRel) : Prop := ∀ (Ic : hI) (Jc : hJ) (B : Bool × Bool) (Im : hI) (Jm : hJ), Rel Ic Jc B Im Jm → ∀ (v1 : Int32), ∃ (v : Int32) (Ic' : hI) (Im' : hI), mC_rule v1 Ic B = some (v, Ic') ∧ mM_rule v1 Im = some (v, Im') ∧ Rel Ic' Jc B Im' Jm
def stp_choices (Rel : hRel) : Prop := ∀ (Ic : hI) (Jc : hJ) (B : Bool × Bool) (Im : hI) (Jm : hJ), Rel Ic Jc B Im Jm → ∀ (v1 : Int32), ∃ (v : Int32) (Ic' : hI) (Im' : hI), mC_choices v1 Ic = some (v, Ic') ∧ mM_choices v1 Im = some (v, Im') ∧ Rel Ic' Jc B Im' Jm
def stp_choice (Rel : hRel) : Prop := ∀ (Ic : hI) (Jc : hJ) (B : Bool × Bool) (Im : hI) (Jm : hJ), Rel Ic Jc B Im Jm → ∀ (v1 : Int32) (v2 : Int32) (v3 : Int32), ∃ (v : Int32) (o : Option Int32) (Ic' : hI) (Im' : hI), mC_choice v1 v2 v3 Ic = some (o, Ic') ∧ mM_choice v1 v2 v3 Im = some (v, Im') ∧ Rel Ic' Jc B Im' Jm ∧ mM_thrown Im' = x_k o ∧ (∀ w, o = some w → w = v)
def stp_leads (Rel : hRel) : Prop := ∀ (Ic : hI) (Jc : hJ) (B : Bool × Bool) (Im : hI) (Jm : hJ), Rel Ic Jc B Im Jm → ∀ (v1 : Int32) (v2 : Int32) (v3 : Int32), ∃ (v : Int32) (Ic' : hI) (Im' : hI), mC_leads v1 v2 v3 Ic = some (v, Ic') ∧ mM_leads v1 v2 v3 Im = some (v, Im') ∧ Rel Ic' Jc B Im' Jm
def stp_paid (Rel : hRel) : Prop := ∀ (Ic : hI) (Jc : hJ) (B : Bool × Bool) (Im : hI) (Jm : hJ), Rel Ic Jc B Im Jm → ∀ (v1 : Int32) (v2 : Int32) (v3 : Int32), ∃ (v : Int64) (Ic' : hI) (Jc' : hJ) (Im' : hI) (Jm' : hJ), mC_paid v1 (zb v2) v3 Ic Jc = some (v, Ic', Jc') ∧ mM_paid v1 (zb v2) v3 Im Jm = some (v, Im', Jm') ∧ Rel Ic' Jc' B Im' Jm'
def stp_ends (Rel : hRel) : Prop := ∀ (Ic : hI) (Jc : hJ) (B : Bool × Bool) (Im : hI) (Jm : hJ), Rel Ic Jc B Im Jm → ∀ (v1 : Int32) (v2 : Int32) (v3 : Int32), ∃ (v : Int64) (Ic' : hI) (Jc' : hJ) (Im' : hI) (Jm' : hJ), mC_ends v1 (zb v2) v3 Ic Jc = some (v, Ic', Jc') ∧ mM_ends v1 (zb v2) v3 Im Jm = some (v, Im', Jm') ∧ Rel Ic' Jc' B Im' Jm'
def stp_unsure (Rel : hRel) : Prop := ∀ (Ic : hI) (Jc : hJ) (B : Bool × Bool) (Im : hI) (Jm : hJ), Rel Ic Jc B Im Jm → ∃ (v : Int32) (Ic' : hI) (Jc' : hJ) (Im' : hI) (Jm' : hJ), mC_unsure  Ic Jc = some (v, Ic', Jc') ∧ mM_unsure  Im Jm = some (v, Im', Jm') ∧ Rel Ic' Jc' B Im' Jm'
def stp_plan (Rel : hRel) : Prop := ∀ (Ic : hI) (Jc : hJ) (B : Bool × Bool) (Im : hI) (Jm : hJ), Rel Ic Jc B Im Jm → ∀ (v1 : Int32) (v2 : Int32) (v3 : Int32), ∃ (v : Int32) (Ic' : hI) (Jc' : hJ) (Im' : hI) (Jm' : hJ), mC_plan v1 (zb v2) v3 Ic Jc = some (v, Ic', Jc') ∧ mM_plan v1 (zb v2) v3 Im Jm = some (v, Im', Jm') ∧ Rel Ic' Jc' B Im' Jm'
def stp_within (Rel : hRel) : Prop := ∀ (Ic : hI) (Jc : hJ) (B : Bool × Bool) (Im : hI) (Jm : hJ), Rel Ic Jc B Im Jm → ∀ (v1 : Int32) (v2 : Int32) (v3 : Int32) (v4 : Int32), ∃ (v : Int64) (Ic' : hI) (Jc' : hJ) (Im' : hI) (Jm' : hJ), mC_within v1 v2 (zb v3) v4 Ic Jc = some (v, Ic', Jc') ∧ mM_within v1 v2 (zb v3) v4 Im Jm = some (v, Im', Jm') ∧ Rel Ic' Jc' B Im' Jm'
def stp_half (Rel : hRel) : Prop := ∀ (Ic : hI) (Jc : hJ) (B : Bool × Bool) (Im : hI) (Jm : hJ), Rel Ic Jc B Im Jm → ∀ (v1 : Int32), ∃ (v : Int32) (Ic' : hI) (Jc' : hJ) (Im' : hI) (Jm' : hJ), mC_half v1 Ic Jc = some (v, Ic', Jc') ∧ mM_half v1 Im Jm = some (v, Im', Jm') ∧ Rel Ic' Jc' B Im' Jm'
def stp_guessed (Rel : hRel) : Prop := ∀ (Ic : hI) (Jc : hJ) (B : Bool × Bool) (Im : hI) (Jm : hJ), Rel Ic Jc B Im Jm → ∀ (v1 : Int32) (v2 : Int32), ∃ (v : Int64) (Ic' : hI) (Im' : hI), mC_guessed v1 v2 Ic B = some (v, Ic') ∧ mM_guessed v1 v2 Im = some (v, Im') ∧ Rel Ic' Jc B Im' Jm
def stp_ahead (Rel : hRel) : Prop := ∀ (Ic : hI) (Jc : hJ) (B : Bool × Bool) (Im : hI) (Jm : hJ), Rel Ic Jc B Im Jm → ∀ (v1 : Int32) (v2 : Int32) (v3 : Int32), ∃ (v : Int64) (Ic' : hI) (Im' : hI), mC_ahead v1 v2 v3 Ic B = some (v, Ic') ∧ mM_ahead v1 v2 v3 Im = some (v, Im') ∧ Rel Ic' Jc B Im' Jm
def stp_refutes (Rel : hRel) : Prop := ∀ (Ic : hI) (Jc : hJ) (B : Bool × Bool) (Im : hI) (Jm : hJ), Rel Ic Jc B Im Jm → ∀ (v1 : Int32), ∃ (v : Int32) (Ic' : hI) (Im' : hI), mC_refutes v1 Ic B = some (v, Ic') ∧ mM_refutes v1 Im = some (v, Im') ∧ Rel Ic' Jc B Im' Jm
def stp_best (Rel : hRel) : Prop := ∀ (Ic : hI) (Jc : hJ) (B : Bool × Bool) (Im : hI) (Jm : hJ), Rel Ic Jc B Im Jm → ∀ (v1 : Int32) (v2 : Int32), ∃ (v : Int64) (Ic' : hI) (Jc' : hJ) (Im' : hI) (Jm' : hJ), mC_best v1 v2 Ic Jc = some (v, Ic', Jc') ∧ mM_best v1 v2 Im Jm = some (v, Im', Jm') ∧ Rel Ic' Jc' B Im' Jm'
def stp_run (Rel : hRel) : Prop := ∀ (Ic : hI) (Jc : hJ) (B : Bool × Bool) (Im : hI) (Jm : hJ), Rel Ic Jc B Im Jm → ∀ (v1 : Int32) (v2 : Int32) (v3 : Int32) (v4 : Int32) (v5 : Int32), ∃ (v : Int32) (Ic' : hI) (Im' : hI), mC_run v1 v2 v3 v4 v5 Ic B = some (v, Ic') ∧ mM_run v1 v2 v3 v4 v5 Im = some (v, Im') ∧ Rel Ic' Jc B Im' Jm
def stp_bind (Rel : hRel) : Prop := ∀ (Ic : hI) (Jc : hJ) (B : Bool × Bool) (Im : hI) (Jm : hJ), Rel Ic Jc B Im Jm → ∀ (v1 : Int32) (v2 : Int32), ∃ (v : Int32) (Ic' : hI) (Im' : hI), mC_bind v1 v2 Ic B = some (v, Ic') ∧ mM_bind v1 v2 Im = some (v, Im') ∧ Rel Ic' Jc B Im' Jm
def stp_price (Rel : hRel) : Prop := ∀ (Ic : hI) (Jc : hJ) (B : Bool × Bool) (Im : hI) (Jm : hJ), Rel Ic Jc B Im Jm → ∀ (v1 : Int32) (v2 : Int32), ∃ (v : Int32) (Ic' : hI) (Im' : hI), mC_price v1 v2 Ic B = some (v, Ic') ∧ mM_price v1 v2 Im = some (v, Im') ∧ Rel Ic' Jc B Im' Jm
def stp_most (Rel : hRel) : Prop := ∀ (Ic : hI) (Jc : hJ) (B : Bool × Bool) (Im : hI) (Jm : hJ), Rel Ic Jc B Im Jm → ∀ (v1 : Int32), ∃ (v : Int32) (Ic' : hI) (Jc' : hJ) (Im' : hI) (Jm' : hJ), mC_most v1 Ic Jc B = some (v, Ic', Jc') ∧ mM_most v1 Im Jm = some (v, Im', Jm') ∧ Rel Ic' Jc' B Im' Jm'
def stp_status (Rel : hRel) : Prop := ∀ (Ic : hI) (Jc : hJ) (B : Bool × Bool) (Im : hI) (Jm : hJ), Rel Ic Jc B Im Jm → ∀ (v1 : Int32), ∃ (v : Int32)  (Im' : hI), mC_status v1 Ic = some v ∧ mM_status v1 Im = some (v, Im') ∧ Rel Ic Jc B Im' Jm
def stp_count (Rel : hRel) : Prop := ∀ (Ic : hI) (Jc : hJ) (B : Bool × Bool) (Im : hI) (Jm : hJ), Rel Ic Jc B Im Jm → ∀ (v1 : Int32), ∃ (v : Int32)  (Im' : hI), mC_count v1 Ic = v ∧ mM_count v1 Im = (v, Im') ∧ Rel Ic Jc B Im' Jm
section LL
variable {p : Program} {l : Launch} {e : Env} {s : State} {m : MethodId} {below : List Frame} {meth : Method} {c : Code} {b L : Nat} {xs : Nat → Int32} {D : va_G} {cy : Nat → ClassId} {αc αm : Nat → Nat} {oa : Nat} {pc : Nat} {st : List Value} {Mc Mm : hMem} {f : Nat → Int64} {n j : Nat}
/-- the locals in the law's loop -/
def lB (b : Nat) (αc αm : Nat → Nat) (oa : Nat) (i : Int32) : List (Nat × Value) := [(0, .ref b), (1, .ref (αc 0)), (2, .ref (αm 0)), (3, .ref oa), (4, .int i)]
theorem l_arg {k : Nat} {kk : Int} (C : LC p l s m meth c b L xs D cy αc αm oa) (hj : j + 6 ≤ L) (hk : k < 6) (h1 : decode code pc = .ok (.aload_n 0, 1)) (h2 : decode code (pc + 1) = .ok (.iload 4, 2)) (h3 : decode code (pc + 3) = .ok (.iconst kk, 1)) (h0 : Int32.ofInt kk = nI k) (h4 : decode code (pc + 4) = .ok (.iadd, 1)) (h5 : decode code (pc + 5) = .ok (.iaload, 1))
    (K : LW p l e s m below meth c b D cy αc αm oa (lB b αc αm oa (nI j)) (pc + 6) (.int (xs (j + k)) :: st) Mc Mm f n) : LW p l e s m below meth c b D cy αc αm oa (lB b αc αm oa (nI j)) pc st Mc Mm f n := by
  have hL := C.2.1
  refine l_aload_n C h1 rfl rfl ?_
  refine l_iload C h2 rfl ?_
  refine l_iconst C h3 h0 ?_
  refine l_iadd C h4 ?_
  rw [nI_add]
  refine l_sld C (vp_in_nI (by omega) (by omega)) h5 ?_
  rw [nI_clamp (by omega)]
  exact K
theorem l_argZ {k : Nat} {kk : Int} (C : LC p l s m meth c b L xs D cy αc αm oa) (hj : j + 6 ≤ L) (hk : k < 6) (h1 : decode code pc = .ok (.aload_n 0, 1)) (h2 : decode code (pc + 1) = .ok (.iload 4, 2)) (h3 : decode code (pc + 3) = .ok (.iconst kk, 1)) (h0 : Int32.ofInt kk = nI k) (h4 : decode code (pc + 4) = .ok (.iadd, 1)) (h5 : decode code (pc + 5) = .ok (.iaload, 1)) (h6 : decode code (pc + 6) = .ok (.ifCond .eq 7, 3)) (h7 : decode code (pc + 9) = .ok (.iconst 1, 1)) (h8 : decode code (pc + 10) = .ok (.goto 4, 3)) (h9 : decode code (pc + 13) = .ok (.iconst 0, 1))
    (K : LW p l e s m below meth c b D cy αc αm oa (lB b αc αm oa (nI j)) (pc + 14) (.int (zb (xs (j + k))) :: st) Mc Mm f n) : LW p l e s m below meth c b D cy αc αm oa (lB b αc αm oa (nI j)) pc st Mc Mm f n := by
  refine l_arg C hj hk h1 h2 h3 h0 h4 h5 ?_
  refine l_if_eq (tgt := pc + 13) C h6 (by omega) (fun h => ?_) (fun h => ?_)
  · refine l_iconst (v := 0) C h9 (by decide) ?_
    unfold zb at K
    rw [if_pos h] at K
    exact K
  · refine l_iconst (v := 1) C h7 (by decide) ?_
    refine l_goto (tgt := pc + 14) C h8 (by omega) ?_
    unfold zb at K
    rw [if_neg h] at K
    exact K
theorem lc_feed {Rel : hRel} (hs : stp_feed Rel) {Ic : hI} {Jc : hJ} {B : Bool × Bool} {Im : hI} {Jm : hJ} (hR : Rel Ic Jc B Im Jm) (C : LC p l s m meth c b L xs D cy αc αm oa) (hj : j + 6 ≤ L) (hn : n ≤ 590) (K : ∀ (Ic : hI) (Jc : hJ) (B : Bool × Bool) (Im : hI) (Jm : hJ) (f : Nat → Int64) (n2 : Nat), Rel Ic Jc B Im Jm → n2 ≤ n + 1 → LW p l e s m below meth c b D cy αc αm oa (lB b αc αm oa (nI j)) 1170 [] (Ic, Jc, RM B) (Im, Jm, RMm) f n2) : LW p l e s m below meth c b D cy αc αm oa (lB b αc αm oa (nI j)) 156 [] (Ic, Jc, RM B) (Im, Jm, RMm) f n := by
  replace hn : n ≤ 600 := by omega
  obtain ⟨v, Ic', Im', h1, h2, hR⟩ := hs _ _ _ _ _ hR (xs (j + 1)) (xs (j + 2)) (xs (j + 3)) (xs (j + 4)) (xs (j + 5))
  refine l_aload_n C dL_156 rfl rfl ?_
  refine l_arg (k := 1) C hj (by decide) dL_157 dL_158 dL_160 (by decide) dL_161 dL_162 ?_
  refine l_arg (k := 2) C hj (by decide) dL_163 dL_164 dL_166 (by decide) dL_167 dL_168 ?_
  refine l_arg (k := 3) C hj (by decide) dL_169 dL_170 dL_172 (by decide) dL_173 dL_174 ?_
  refine l_arg (k := 4) C hj (by decide) dL_175 dL_176 dL_178 (by decide) dL_179 dL_180 ?_
  refine l_arg (k := 5) C hj (by decide) dL_181 dL_182 dL_184 (by decide) dL_185 dL_186 ?_
  refine l_callC [] C yy_X10_feed rfl wK_19 (sC_feed 1000 (Nat.le_of_ble_eq_true rfl) _ _ _ _ _ _ _ _ _ h1) (Nat.le_refl _) rfl rfl rfl rfl (by decide) hn dL_187 ?_
  refine l_aload_n C dL_190 rfl rfl ?_
  refine l_arg (k := 1) C hj (by decide) dL_191 dL_192 dL_194 (by decide) dL_195 dL_196 ?_
  refine l_arg (k := 2) C hj (by decide) dL_197 dL_198 dL_200 (by decide) dL_201 dL_202 ?_
  refine l_arg (k := 3) C hj (by decide) dL_203 dL_204 dL_206 (by decide) dL_207 dL_208 ?_
  refine l_arg (k := 4) C hj (by decide) dL_209 dL_210 dL_212 (by decide) dL_213 dL_214 ?_
  refine l_arg (k := 5) C hj (by decide) dL_215 dL_216 dL_218 (by decide) dL_219 dL_220 ?_
  refine l_callM [.int v] C yy_X11_feed rfl wK_23 (sM_feed 1000 (Nat.le_of_ble_eq_true rfl) _ _ _ _ _ _ _ _ h2) (Nat.le_refl _) rfl rfl rfl rfl (Nat.le_of_ble_eq_true rfl) hn dL_221 ?_
  exact l_icmp_eq (tgt := 1170) C dL_224 (by decide) (fun _ => K _ _ _ _ _ _ _ hR (Nat.le_succ _)) (fun h => absurd rfl h)
theorem lc_end {Rel : hRel} (hs : stp_end Rel) {Ic : hI} {Jc : hJ} {B : Bool × Bool} {Im : hI} {Jm : hJ} (hR : Rel Ic Jc B Im Jm) (C : LC p l s m meth c b L xs D cy αc αm oa) (hj : j + 6 ≤ L) (hn : n ≤ 590) (K : ∀ (Ic : hI) (Jc : hJ) (B : Bool × Bool) (Im : hI) (Jm : hJ) (f : Nat → Int64) (n2 : Nat), Rel Ic Jc B Im Jm → n2 ≤ n + 1 → LW p l e s m below meth c b D cy αc αm oa (lB b αc αm oa (nI j)) 1170 [] (Ic, Jc, RM B) (Im, Jm, RMm) f n2) : LW p l e s m below meth c b D cy αc αm oa (lB b αc αm oa (nI j)) 229 [] (Ic, Jc, RM B) (Im, Jm, RMm) f n := by
  replace hn : n ≤ 600 := by omega
  obtain ⟨v, Ic', Im', h1, h2, hR⟩ := hs _ _ _ _ _ hR (xs (j + 1))
  refine l_aload_n C dL_229 rfl rfl ?_
  refine l_arg (k := 1) C hj (by decide) dL_230 dL_231 dL_233 (by decide) dL_234 dL_235 ?_
  refine l_callC [] C yy_X10_end rfl wK_24 (sC_end 1000 (Nat.le_of_ble_eq_true rfl) _ _ _ _ _ h1) (Nat.le_refl _) rfl rfl rfl rfl (by decide) hn dL_236 ?_
  refine l_aload_n C dL_239 rfl rfl ?_
  refine l_arg (k := 1) C hj (by decide) dL_240 dL_241 dL_243 (by decide) dL_244 dL_245 ?_
  refine l_callM [.int v] C yy_X11_end rfl wK_28 (sM_end 1000 (Nat.le_of_ble_eq_true rfl) _ _ _ _ h2) (Nat.le_refl _) rfl rfl rfl rfl (Nat.le_of_ble_eq_true rfl) hn dL_246 ?_
  exact l_icmp_eq (tgt := 1170) C dL_249 (by decide) (fun _ => K _ _ _ _ _ _ _ hR (Nat.le_succ _)) (fun h => absurd rfl h)
theorem lc_fault {Rel : hRel} (hs : stp_fault Rel) {Ic : hI} {Jc : hJ} {B : Bool × Bool} {Im : hI} {Jm : hJ} (hR : Rel Ic Jc B Im Jm) (C : LC p l s m meth c b L xs D cy αc αm oa) (hj : j + 6 ≤ L) (hn : n ≤ 590) (K : ∀ (Ic : hI) (Jc : hJ) (B : Bool × Bool) (Im : hI) (Jm : hJ) (f : Nat → Int64) (n2 : Nat), Rel Ic Jc B Im Jm → n2 ≤ n + 1 → LW p l e s m below meth c b D cy αc αm oa (lB b αc αm oa (nI j)) 1170 [] (Ic, Jc, RM B) (Im, Jm, RMm) f n2) : LW p l e s m below meth c b D cy αc αm oa (lB b αc αm oa (nI j)) 254 [] (Ic, Jc, RM B) (Im, Jm, RMm) f n := by
  replace hn : n ≤ 600 := by omega
  obtain ⟨v, Ic', Im', h1, h2, hR⟩ := hs _ _ _ _ _ hR (xs (j + 1))
  refine l_aload_n C dL_254 rfl rfl ?_
  refine l_arg (k := 1) C hj (by decide) dL_255 dL_256 dL_258 (by decide) dL_259 dL_260 ?_
  refine l_callC [] C yy_X10_fault rfl wK_29 (sC_fault 1000 (Nat.le_of_ble_eq_true rfl) _ _ _ _ _ h1) (Nat.le_refl _) rfl rfl rfl rfl (by decide) hn dL_261 ?_
  refine l_aload_n C dL_264 rfl rfl ?_
  refine l_arg (k := 1) C hj (by decide) dL_265 dL_266 dL_268 (by decide) dL_269 dL_270 ?_
  refine l_callM [.int v] C yy_X11_fault rfl wK_33 (sM_fault 1000 (Nat.le_of_ble_eq_true rfl) _ _ _ _ h2) (Nat.le_refl _) rfl rfl rfl rfl (Nat.le_of_ble_eq_true rfl) hn dL_271 ?_
  exact l_icmp_eq (tgt := 1170) C dL_274 (by decide) (fun _ => K _ _ _ _ _ _ _ hR (Nat.le_succ _)) (fun h => absurd rfl h)
theorem lc_loop {Rel : hRel} (hs : stp_loop Rel) {Ic : hI} {Jc : hJ} {B : Bool × Bool} {Im : hI} {Jm : hJ} (hR : Rel Ic Jc B Im Jm) (C : LC p l s m meth c b L xs D cy αc αm oa) (hj : j + 6 ≤ L) (hn : n ≤ 590) (K : ∀ (Ic : hI) (Jc : hJ) (B : Bool × Bool) (Im : hI) (Jm : hJ) (f : Nat → Int64) (n2 : Nat), Rel Ic Jc B Im Jm → n2 ≤ n + 1 → LW p l e s m below meth c b D cy αc αm oa (lB b αc αm oa (nI j)) 1170 [] (Ic, Jc, RM B) (Im, Jm, RMm) f n2) : LW p l e s m below meth c b D cy αc αm oa (lB b αc αm oa (nI j)) 279 [] (Ic, Jc, RM B) (Im, Jm, RMm) f n := by
  replace hn : n ≤ 600 := by omega
  obtain ⟨v, Ic', B', Im', h1, h2, hR⟩ := hs _ _ _ _ _ hR 
  refine l_aload_n C dL_279 rfl rfl ?_
  refine l_callC [] C yy_X10_loop rfl wK_34 (sC_loop 1000 (Nat.le_of_ble_eq_true rfl)  _ _ _ _ h1) (Nat.le_refl _) rfl rfl rfl rfl (by decide) hn dL_280 ?_
  refine l_aload_n C dL_283 rfl rfl ?_
  refine l_callM [.int v] C yy_X11_loop rfl wK_38 (sM_loop 1000 (Nat.le_of_ble_eq_true rfl)  _ _ _ h2) (Nat.le_refl _) rfl rfl rfl rfl (Nat.le_of_ble_eq_true rfl) hn dL_284 ?_
  exact l_icmp_eq (tgt := 1170) C dL_287 (by decide) (fun _ => K _ _ _ _ _ _ _ hR (Nat.le_succ _)) (fun h => absurd rfl h)
theorem lc_guess {Rel : hRel} (hs : stp_guess Rel) {Ic : hI} {Jc : hJ} {B : Bool × Bool} {Im : hI} {Jm : hJ} (hR : Rel Ic Jc B Im Jm) (C : LC p l s m meth c b L xs D cy αc αm oa) (hj : j + 6 ≤ L) (hn : n ≤ 590) (K : ∀ (Ic : hI) (Jc : hJ) (B : Bool × Bool) (Im : hI) (Jm : hJ) (f : Nat → Int64) (n2 : Nat), Rel Ic Jc B Im Jm → n2 ≤ n + 1 → LW p l e s m below meth c b D cy αc αm oa (lB b αc αm oa (nI j)) 1170 [] (Ic, Jc, RM B) (Im, Jm, RMm) f n2) : LW p l e s m below meth c b D cy αc αm oa (lB b αc αm oa (nI j)) 292 [] (Ic, Jc, RM B) (Im, Jm, RMm) f n := by
  replace hn : n ≤ 600 := by omega
  obtain ⟨v, Ic', B', Im', h1, h2, hR⟩ := hs _ _ _ _ _ hR 
  refine l_aload_n C dL_292 rfl rfl ?_
  refine l_callC [] C yy_X10_guess rfl wK_39 (sC_guess 1000 (Nat.le_of_ble_eq_true rfl)  _ _ _ _ h1) (Nat.le_refl _) rfl rfl rfl rfl (by decide) hn dL_293 ?_
  refine l_aload_n C dL_296 rfl rfl ?_
  refine l_callM [.int v] C yy_X11_guess rfl wK_42 (sM_guess 1000 (Nat.le_of_ble_eq_true rfl)  _ _ _ h2) (Nat.le_refl _) rfl rfl rfl rfl (Nat.le_of_ble_eq_true rfl) hn dL_297 ?_
  exact l_icmp_eq (tgt := 1170) C dL_300 (by decide) (fun _ => K _ _ _ _ _ _ _ hR (Nat.le_succ _)) (fun h => absurd rfl h)
theorem lc_rule {Rel : hRel} (hs : stp_rule Rel) {Ic : hI} {Jc : hJ} {B : Bool × Bool} {Im : hI} {Jm : hJ} (hR : Rel Ic Jc B Im Jm) (C : LC p l s m meth c b L xs D cy αc αm oa) (hj : j + 6 ≤ L) (hn : n ≤ 590) (K : ∀ (Ic : hI) (Jc : hJ) (B : Bool × Bool) (Im : hI) (Jm : hJ) (f : Nat → Int64) (n2 : Nat), Rel Ic Jc B Im Jm → n2 ≤ n + 1 → LW p l e s m below meth c b D cy αc αm oa (lB b αc αm oa (nI j)) 1170 [] (Ic, Jc, RM B) (Im, Jm, RMm) f n2) : LW p l e s m below meth c b D cy αc αm oa (lB b αc αm oa (nI j)) 305 [] (Ic, Jc, RM B) (Im, Jm, RMm) f n := by
  replace hn : n ≤ 600 := by omega
  obtain ⟨v, Ic', Im', h1, h2, hR⟩ := hs _ _ _ _ _ hR (xs (j + 1))
  refine l_aload_n C dL_305 rfl rfl ?_
  refine l_arg (k := 1) C hj (by decide) dL_306 dL_307 dL_309 (by decide) dL_310 dL_311 ?_
  refine l_callC [] C yy_X10_rule rfl wK_43 (sC_rule 1000 (Nat.le_of_ble_eq_true rfl) _ _ _ _ _ h1) (Nat.le_refl _) rfl rfl rfl rfl (by decide) hn dL_312 ?_
  refine l_aload_n C dL_315 rfl rfl ?_
  refine l_arg (k := 1) C hj (by decide) dL_316 dL_317 dL_319 (by decide) dL_320 dL_321 ?_
  refine l_callM [.int v] C yy_X11_rule rfl wK_46 (sM_rule 1000 (Nat.le_of_ble_eq_true rfl) _ _ _ _ h2) (Nat.le_refl _) rfl rfl rfl rfl (Nat.le_of_ble_eq_true rfl) hn dL_322 ?_
  exact l_icmp_eq (tgt := 1170) C dL_325 (by decide) (fun _ => K _ _ _ _ _ _ _ hR (Nat.le_succ _)) (fun h => absurd rfl h)
theorem lc_choices {Rel : hRel} (hs : stp_choices Rel) {Ic : hI} {Jc : hJ} {B : Bool × Bool} {Im : hI} {Jm : hJ} (hR : Rel Ic Jc B Im Jm) (C : LC p l s m meth c b L xs D cy αc αm oa) (hj : j + 6 ≤ L) (hn : n ≤ 590) (K : ∀ (Ic : hI) (Jc : hJ) (B : Bool × Bool) (Im : hI) (Jm : hJ) (f : Nat → Int64) (n2 : Nat), Rel Ic Jc B Im Jm → n2 ≤ n + 1 → LW p l e s m below meth c b D cy αc αm oa (lB b αc αm oa (nI j)) 1170 [] (Ic, Jc, RM B) (Im, Jm, RMm) f n2) : LW p l e s m below meth c b D cy αc αm oa (lB b αc αm oa (nI j)) 330 [] (Ic, Jc, RM B) (Im, Jm, RMm) f n := by
  replace hn : n ≤ 600 := by omega
  obtain ⟨v, Ic', Im', h1, h2, hR⟩ := hs _ _ _ _ _ hR (xs (j + 1))
  refine l_aload_n C dL_330 rfl rfl ?_
  refine l_arg (k := 1) C hj (by decide) dL_331 dL_332 dL_334 (by decide) dL_335 dL_336 ?_
  refine l_callC [] C yy_X10_choices rfl wK_47 (sC_choices 1000 (Nat.le_of_ble_eq_true rfl) _ _ _ _ _ h1) (Nat.le_refl _) rfl rfl rfl rfl (by decide) hn dL_337 ?_
  refine l_aload_n C dL_340 rfl rfl ?_
  refine l_arg (k := 1) C hj (by decide) dL_341 dL_342 dL_344 (by decide) dL_345 dL_346 ?_
  refine l_callM [.int v] C yy_X11_choices rfl wK_50 (sM_choices 1000 (Nat.le_of_ble_eq_true rfl) _ _ _ _ h2) (Nat.le_refl _) rfl rfl rfl rfl (Nat.le_of_ble_eq_true rfl) hn dL_347 ?_
  exact l_icmp_eq (tgt := 1170) C dL_350 (by decide) (fun _ => K _ _ _ _ _ _ _ hR (Nat.le_succ _)) (fun h => absurd rfl h)
theorem l_arg5 {k : Nat} {kk : Int} {v5 : Value} (C : LC p l s m meth c b L xs D cy αc αm oa) (hj : j + 6 ≤ L) (hk : k < 6) (h1 : decode code pc = .ok (.aload_n 0, 1)) (h2 : decode code (pc + 1) = .ok (.iload 4, 2)) (h3 : decode code (pc + 3) = .ok (.iconst kk, 1)) (h0 : Int32.ofInt kk = nI k) (h4 : decode code (pc + 4) = .ok (.iadd, 1)) (h5 : decode code (pc + 5) = .ok (.iaload, 1))
    (K : LW p l e s m below meth c b D cy αc αm oa (lB b αc αm oa (nI j) ++ [(5, v5)]) (pc + 6) (.int (xs (j + k)) :: st) Mc Mm f n) : LW p l e s m below meth c b D cy αc αm oa (lB b αc αm oa (nI j) ++ [(5, v5)]) pc st Mc Mm f n := by
  have hL := C.2.1
  refine l_aload_n C h1 rfl rfl ?_
  refine l_iload C h2 rfl ?_
  refine l_iconst C h3 h0 ?_
  refine l_iadd C h4 ?_
  rw [nI_add]
  refine l_sld C (vp_in_nI (by omega) (by omega)) h5 ?_
  rw [nI_clamp (by omega)]
  exact K
theorem lc_choice {Rel : hRel} (hs : stp_choice Rel) {Ic : hI} {Jc : hJ} {B : Bool × Bool} {Im : hI} {Jm : hJ} (hR : Rel Ic Jc B Im Jm) (C : LC p l s m meth c b L xs D cy αc αm oa) (hj : j + 6 ≤ L) (hn : n ≤ 590) (K : ∀ (Ic : hI) (Jc : hJ) (B : Bool × Bool) (Im : hI) (Jm : hJ) (f : Nat → Int64) (n2 : Nat), Rel Ic Jc B Im Jm → n2 ≤ n + 1 → LW p l e s m below meth c b D cy αc αm oa (lB b αc αm oa (nI j)) 1170 [] (Ic, Jc, RM B) (Im, Jm, RMm) f n2) : LW p l e s m below meth c b D cy αc αm oa (lB b αc αm oa (nI j)) 355 [] (Ic, Jc, RM B) (Im, Jm, RMm) f n := by
  have hn : n ≤ 600 := by omega
  obtain ⟨v, o, Ic', Im', h1, h2, hR, ht, hw⟩ := hs _ _ _ _ _ hR (xs (j + 1)) (xs (j + 2)) (xs (j + 3))
  refine l_aload_n C dL_355 rfl rfl ?_
  refine l_arg (k := 1) C hj (by decide) dL_356 dL_357 dL_359 (by decide) dL_360 dL_361 ?_
  refine l_arg (k := 2) C hj (by decide) dL_362 dL_363 dL_365 (by decide) dL_366 dL_367 ?_
  refine l_arg (k := 3) C hj (by decide) dL_368 dL_369 dL_371 (by decide) dL_372 dL_373 ?_
  refine l_aload_n C dL_374 rfl rfl ?_
  refine l_callX [] C (sC_choice 999 (Nat.le_of_ble_eq_true rfl) _ _ _ _ _ _ _ h1) (Nat.le_of_ble_eq_true rfl) rfl (by decide) hn dL_375 ?_
  refine l_istore C dL_378 (by decide) rfl ?_
  refine l_sub (lv' := lB b αc αm oa (nI j) ++ [(5, .int (x_k o))]) [1, 2, 3, 4, 5, 0] rfl ?_
  refine l_aload_n C dL_380 rfl rfl ?_
  refine l_arg5 (k := 1) C hj (by decide) dL_381 dL_382 dL_384 (by decide) dL_385 dL_386 ?_
  refine l_arg5 (k := 2) C hj (by decide) dL_387 dL_388 dL_390 (by decide) dL_391 dL_392 ?_
  refine l_arg5 (k := 3) C hj (by decide) dL_393 dL_394 dL_396 (by decide) dL_397 dL_398 ?_
  refine l_callM [] C yy_X11_choice rfl wK_56 (sM_choice 1000 (Nat.le_of_ble_eq_true rfl) _ _ _ _ _ _ h2) (Nat.le_refl _) rfl rfl rfl rfl (by decide) (by omega) dL_399 ?_
  refine l_istore C dL_402 (by decide) rfl ?_
  refine l_sub (lv' := lB b αc αm oa (nI j) ++ [(5, .int (x_k o)), (6, .int v)]) [1, 2, 3, 4, 5, 6, 0] rfl ?_
  refine l_aload_n C dL_404 rfl rfl ?_
  refine l_callM [] C yy_X11_thrown rfl wK_57 (sM_thrown 1000 (Nat.le_of_ble_eq_true rfl) _ _ _ ht) (Nat.le_refl _) rfl rfl rfl rfl (by decide) (by omega) dL_405 ?_
  refine l_iload C dL_408 rfl ?_
  refine l_icmp_eq (tgt := 415) C dL_410 (by decide) (fun _ => ?_) (fun h => absurd rfl h)
  refine l_iload C dL_415 rfl ?_
  have KK : LW p l e s m below meth c b D cy αc αm oa (lB b αc αm oa (nI j) ++ [(5, .int (x_k o)), (6, .int v)]) 432 [] (Ic', Jc, RM B) (Im', Jm, RMm) (x_f o f) (n + 1) := by
    refine l_sub (lv' := lB b αc αm oa (nI j)) [0, 1, 2, 3, 4] rfl ?_
    refine l_goto (tgt := 1170) C dL_432 (by decide) ?_
    exact K _ _ _ _ _ _ _ hR (Nat.le_refl _)
  refine l_if_ne (tgt := 432) C dL_417 (by decide) (fun _ => KK) (fun h => ?_)
  cases o with
  | none => exact absurd h (by decide)
  | some w =>
    have hwv := hw w rfl
    subst hwv
    refine l_aload_n C dL_420 rfl rfl ?_
    refine l_iconst (v := 0) C dL_421 (by decide) ?_
    refine l_old C dL_422 ?_
    refine l_iload C dL_423 rfl ?_
    refine l_i2l C dL_425 ?_
    exact l_lcmpe (tgt := 432) C dL_426 dL_427 (by decide) KK
theorem lc_leads {Rel : hRel} (hs : stp_leads Rel) {Ic : hI} {Jc : hJ} {B : Bool × Bool} {Im : hI} {Jm : hJ} (hR : Rel Ic Jc B Im Jm) (C : LC p l s m meth c b L xs D cy αc αm oa) (hj : j + 6 ≤ L) (hn : n ≤ 590) (K : ∀ (Ic : hI) (Jc : hJ) (B : Bool × Bool) (Im : hI) (Jm : hJ) (f : Nat → Int64) (n2 : Nat), Rel Ic Jc B Im Jm → n2 ≤ n + 1 → LW p l e s m below meth c b D cy αc αm oa (lB b αc αm oa (nI j)) 1170 [] (Ic, Jc, RM B) (Im, Jm, RMm) f n2) : LW p l e s m below meth c b D cy αc αm oa (lB b αc αm oa (nI j)) 435 [] (Ic, Jc, RM B) (Im, Jm, RMm) f n := by
  replace hn : n ≤ 600 := by omega
  obtain ⟨v, Ic', Im', h1, h2, hR⟩ := hs _ _ _ _ _ hR (xs (j + 1)) (xs (j + 2)) (xs (j + 3))
  refine l_aload_n C dL_435 rfl rfl ?_
  refine l_arg (k := 1) C hj (by decide) dL_436 dL_437 dL_439 (by decide) dL_440 dL_441 ?_
  refine l_arg (k := 2) C hj (by decide) dL_442 dL_443 dL_445 (by decide) dL_446 dL_447 ?_
  refine l_arg (k := 3) C hj (by decide) dL_448 dL_449 dL_451 (by decide) dL_452 dL_453 ?_
  refine l_callC [] C yy_X10_leads rfl wK_60 (sC_leads 1000 (Nat.le_of_ble_eq_true rfl) _ _ _ _ _ _ _ h1) (Nat.le_refl _) rfl rfl rfl rfl (by decide) hn dL_454 ?_
  refine l_aload_n C dL_457 rfl rfl ?_
  refine l_arg (k := 1) C hj (by decide) dL_458 dL_459 dL_461 (by decide) dL_462 dL_463 ?_
  refine l_arg (k := 2) C hj (by decide) dL_464 dL_465 dL_467 (by decide) dL_468 dL_469 ?_
  refine l_arg (k := 3) C hj (by decide) dL_470 dL_471 dL_473 (by decide) dL_474 dL_475 ?_
  refine l_callM [.int v] C yy_X11_leads rfl wK_63 (sM_leads 1000 (Nat.le_of_ble_eq_true rfl) _ _ _ _ _ _ h2) (Nat.le_refl _) rfl rfl rfl rfl (Nat.le_of_ble_eq_true rfl) hn dL_476 ?_
  exact l_icmp_eq (tgt := 1170) C dL_479 (by decide) (fun _ => K _ _ _ _ _ _ _ hR (Nat.le_succ _)) (fun h => absurd rfl h)
theorem lc_paid {Rel : hRel} (hs : stp_paid Rel) {Ic : hI} {Jc : hJ} {B : Bool × Bool} {Im : hI} {Jm : hJ} (hR : Rel Ic Jc B Im Jm) (C : LC p l s m meth c b L xs D cy αc αm oa) (hj : j + 6 ≤ L) (hn : n ≤ 590) (K : ∀ (Ic : hI) (Jc : hJ) (B : Bool × Bool) (Im : hI) (Jm : hJ) (f : Nat → Int64) (n2 : Nat), Rel Ic Jc B Im Jm → n2 ≤ n + 1 → LW p l e s m below meth c b D cy αc αm oa (lB b αc αm oa (nI j)) 1170 [] (Ic, Jc, RM B) (Im, Jm, RMm) f n2) : LW p l e s m below meth c b D cy αc αm oa (lB b αc αm oa (nI j)) 484 [] (Ic, Jc, RM B) (Im, Jm, RMm) f n := by
  replace hn : n ≤ 600 := by omega
  obtain ⟨v, Ic', Jc', Im', Jm', h1, h2, hR⟩ := hs _ _ _ _ _ hR (xs (j + 1)) (xs (j + 2)) (xs (j + 3))
  refine l_aload_n C dL_484 rfl rfl ?_
  refine l_arg (k := 1) C hj (by decide) dL_485 dL_486 dL_488 (by decide) dL_489 dL_490 ?_
  refine l_argZ (k := 2) C hj (by decide) dL_491 dL_492 dL_494 (by decide) dL_495 dL_496 dL_497 dL_500 dL_501 dL_504 ?_
  refine l_arg (k := 3) C hj (by decide) dL_505 dL_506 dL_508 (by decide) dL_509 dL_510 ?_
  refine l_callC [] C yy_X10_paid rfl wK_64 (sC_paid 1000 (Nat.le_of_ble_eq_true rfl) _ _ _ _ _ _ _ h1) (Nat.le_refl _) rfl rfl rfl rfl (by decide) hn dL_511 ?_
  refine l_aload_n C dL_514 rfl rfl ?_
  refine l_arg (k := 1) C hj (by decide) dL_515 dL_516 dL_518 (by decide) dL_519 dL_520 ?_
  refine l_argZ (k := 2) C hj (by decide) dL_521 dL_522 dL_524 (by decide) dL_525 dL_526 dL_527 dL_530 dL_531 dL_534 ?_
  refine l_arg (k := 3) C hj (by decide) dL_535 dL_536 dL_538 (by decide) dL_539 dL_540 ?_
  refine l_callM [.long v] C yy_X11_paid rfl wK_68 (sM_paid 1000 (Nat.le_of_ble_eq_true rfl) _ _ _ _ _ _ h2) (Nat.le_refl _) rfl rfl rfl rfl (Nat.le_of_ble_eq_true rfl) hn dL_541 ?_
  exact l_lcmpe (tgt := 1170) C dL_544 dL_545 (by decide) (K _ _ _ _ _ _ _ hR (Nat.le_succ _))
theorem lc_ends {Rel : hRel} (hs : stp_ends Rel) {Ic : hI} {Jc : hJ} {B : Bool × Bool} {Im : hI} {Jm : hJ} (hR : Rel Ic Jc B Im Jm) (C : LC p l s m meth c b L xs D cy αc αm oa) (hj : j + 6 ≤ L) (hn : n ≤ 590) (K : ∀ (Ic : hI) (Jc : hJ) (B : Bool × Bool) (Im : hI) (Jm : hJ) (f : Nat → Int64) (n2 : Nat), Rel Ic Jc B Im Jm → n2 ≤ n + 1 → LW p l e s m below meth c b D cy αc αm oa (lB b αc αm oa (nI j)) 1170 [] (Ic, Jc, RM B) (Im, Jm, RMm) f n2) : LW p l e s m below meth c b D cy αc αm oa (lB b αc αm oa (nI j)) 550 [] (Ic, Jc, RM B) (Im, Jm, RMm) f n := by
  replace hn : n ≤ 600 := by omega
  obtain ⟨v, Ic', Jc', Im', Jm', h1, h2, hR⟩ := hs _ _ _ _ _ hR (xs (j + 1)) (xs (j + 2)) (xs (j + 3))
  refine l_aload_n C dL_550 rfl rfl ?_
  refine l_arg (k := 1) C hj (by decide) dL_551 dL_552 dL_554 (by decide) dL_555 dL_556 ?_
  refine l_argZ (k := 2) C hj (by decide) dL_557 dL_558 dL_560 (by decide) dL_561 dL_562 dL_563 dL_566 dL_567 dL_570 ?_
  refine l_arg (k := 3) C hj (by decide) dL_571 dL_572 dL_574 (by decide) dL_575 dL_576 ?_
  refine l_callC [] C yy_X10_ends rfl wK_69 (sC_ends 1000 (Nat.le_of_ble_eq_true rfl) _ _ _ _ _ _ _ h1) (Nat.le_refl _) rfl rfl rfl rfl (by decide) hn dL_577 ?_
  refine l_aload_n C dL_580 rfl rfl ?_
  refine l_arg (k := 1) C hj (by decide) dL_581 dL_582 dL_584 (by decide) dL_585 dL_586 ?_
  refine l_argZ (k := 2) C hj (by decide) dL_587 dL_588 dL_590 (by decide) dL_591 dL_592 dL_593 dL_596 dL_597 dL_600 ?_
  refine l_arg (k := 3) C hj (by decide) dL_601 dL_602 dL_604 (by decide) dL_605 dL_606 ?_
  refine l_callM [.long v] C yy_X11_ends rfl wK_72 (sM_ends 1000 (Nat.le_of_ble_eq_true rfl) _ _ _ _ _ _ h2) (Nat.le_refl _) rfl rfl rfl rfl (Nat.le_of_ble_eq_true rfl) hn dL_607 ?_
  exact l_lcmpe (tgt := 1170) C dL_610 dL_611 (by decide) (K _ _ _ _ _ _ _ hR (Nat.le_succ _))
theorem lc_unsure {Rel : hRel} (hs : stp_unsure Rel) {Ic : hI} {Jc : hJ} {B : Bool × Bool} {Im : hI} {Jm : hJ} (hR : Rel Ic Jc B Im Jm) (C : LC p l s m meth c b L xs D cy αc αm oa) (hj : j + 6 ≤ L) (hn : n ≤ 590) (K : ∀ (Ic : hI) (Jc : hJ) (B : Bool × Bool) (Im : hI) (Jm : hJ) (f : Nat → Int64) (n2 : Nat), Rel Ic Jc B Im Jm → n2 ≤ n + 1 → LW p l e s m below meth c b D cy αc αm oa (lB b αc αm oa (nI j)) 1170 [] (Ic, Jc, RM B) (Im, Jm, RMm) f n2) : LW p l e s m below meth c b D cy αc αm oa (lB b αc αm oa (nI j)) 616 [] (Ic, Jc, RM B) (Im, Jm, RMm) f n := by
  replace hn : n ≤ 600 := by omega
  obtain ⟨v, Ic', Jc', Im', Jm', h1, h2, hR⟩ := hs _ _ _ _ _ hR 
  refine l_aload_n C dL_616 rfl rfl ?_
  refine l_callC [] C yy_X10_unsure rfl wK_73 (sC_unsure 1000 (Nat.le_of_ble_eq_true rfl)  _ _ _ _ h1) (Nat.le_refl _) rfl rfl rfl rfl (by decide) hn dL_617 ?_
  refine l_aload_n C dL_620 rfl rfl ?_
  refine l_callM [.int v] C yy_X11_unsure rfl wK_76 (sM_unsure 1000 (Nat.le_of_ble_eq_true rfl)  _ _ _ h2) (Nat.le_refl _) rfl rfl rfl rfl (Nat.le_of_ble_eq_true rfl) hn dL_621 ?_
  exact l_icmp_eq (tgt := 1170) C dL_624 (by decide) (fun _ => K _ _ _ _ _ _ _ hR (Nat.le_succ _)) (fun h => absurd rfl h)
theorem lc_plan {Rel : hRel} (hs : stp_plan Rel) {Ic : hI} {Jc : hJ} {B : Bool × Bool} {Im : hI} {Jm : hJ} (hR : Rel Ic Jc B Im Jm) (C : LC p l s m meth c b L xs D cy αc αm oa) (hj : j + 6 ≤ L) (hn : n ≤ 590) (K : ∀ (Ic : hI) (Jc : hJ) (B : Bool × Bool) (Im : hI) (Jm : hJ) (f : Nat → Int64) (n2 : Nat), Rel Ic Jc B Im Jm → n2 ≤ n + 1 → LW p l e s m below meth c b D cy αc αm oa (lB b αc αm oa (nI j)) 1170 [] (Ic, Jc, RM B) (Im, Jm, RMm) f n2) : LW p l e s m below meth c b D cy αc αm oa (lB b αc αm oa (nI j)) 629 [] (Ic, Jc, RM B) (Im, Jm, RMm) f n := by
  replace hn : n ≤ 600 := by omega
  obtain ⟨v, Ic', Jc', Im', Jm', h1, h2, hR⟩ := hs _ _ _ _ _ hR (xs (j + 1)) (xs (j + 2)) (xs (j + 3))
  refine l_aload_n C dL_629 rfl rfl ?_
  refine l_arg (k := 1) C hj (by decide) dL_630 dL_631 dL_633 (by decide) dL_634 dL_635 ?_
  refine l_argZ (k := 2) C hj (by decide) dL_636 dL_637 dL_639 (by decide) dL_640 dL_641 dL_642 dL_645 dL_646 dL_649 ?_
  refine l_arg (k := 3) C hj (by decide) dL_650 dL_651 dL_653 (by decide) dL_654 dL_655 ?_
  refine l_callC [] C yy_X10_plan rfl wK_77 (sC_plan 1000 (Nat.le_of_ble_eq_true rfl) _ _ _ _ _ _ _ h1) (Nat.le_refl _) rfl rfl rfl rfl (by decide) hn dL_656 ?_
  refine l_aload_n C dL_659 rfl rfl ?_
  refine l_arg (k := 1) C hj (by decide) dL_660 dL_661 dL_663 (by decide) dL_664 dL_665 ?_
  refine l_argZ (k := 2) C hj (by decide) dL_666 dL_667 dL_669 (by decide) dL_670 dL_671 dL_672 dL_675 dL_676 dL_679 ?_
  refine l_arg (k := 3) C hj (by decide) dL_680 dL_681 dL_683 (by decide) dL_684 dL_685 ?_
  refine l_callM [.int v] C yy_X11_plan rfl wK_81 (sM_plan 1000 (Nat.le_of_ble_eq_true rfl) _ _ _ _ _ _ h2) (Nat.le_refl _) rfl rfl rfl rfl (Nat.le_of_ble_eq_true rfl) hn dL_686 ?_
  exact l_icmp_eq (tgt := 1170) C dL_689 (by decide) (fun _ => K _ _ _ _ _ _ _ hR (Nat.le_succ _)) (fun h => absurd rfl h)
theorem lc_within {Rel : hRel} (hs : stp_within Rel) {Ic : hI} {Jc : hJ} {B : Bool × Bool} {Im : hI} {Jm : hJ} (hR : Rel Ic Jc B Im Jm) (C : LC p l s m meth c b L xs D cy αc αm oa) (hj : j + 6 ≤ L) (hn : n ≤ 590) (K : ∀ (Ic : hI) (Jc : hJ) (B : Bool × Bool) (Im : hI) (Jm : hJ) (f : Nat → Int64) (n2 : Nat), Rel Ic Jc B Im Jm → n2 ≤ n + 1 → LW p l e s m below meth c b D cy αc αm oa (lB b αc αm oa (nI j)) 1170 [] (Ic, Jc, RM B) (Im, Jm, RMm) f n2) : LW p l e s m below meth c b D cy αc αm oa (lB b αc αm oa (nI j)) 694 [] (Ic, Jc, RM B) (Im, Jm, RMm) f n := by
  replace hn : n ≤ 600 := by omega
  obtain ⟨v, Ic', Jc', Im', Jm', h1, h2, hR⟩ := hs _ _ _ _ _ hR (xs (j + 1)) (xs (j + 2)) (xs (j + 3)) (xs (j + 4))
  refine l_aload_n C dL_694 rfl rfl ?_
  refine l_arg (k := 1) C hj (by decide) dL_695 dL_696 dL_698 (by decide) dL_699 dL_700 ?_
  refine l_arg (k := 2) C hj (by decide) dL_701 dL_702 dL_704 (by decide) dL_705 dL_706 ?_
  refine l_argZ (k := 3) C hj (by decide) dL_707 dL_708 dL_710 (by decide) dL_711 dL_712 dL_713 dL_716 dL_717 dL_720 ?_
  refine l_arg (k := 4) C hj (by decide) dL_721 dL_722 dL_724 (by decide) dL_725 dL_726 ?_
  refine l_callC [] C yy_X10_within rfl wK_82 (sC_within 1000 (Nat.le_of_ble_eq_true rfl) _ _ _ _ _ _ _ _ h1) (Nat.le_refl _) rfl rfl rfl rfl (by decide) hn dL_727 ?_
  refine l_aload_n C dL_730 rfl rfl ?_
  refine l_arg (k := 1) C hj (by decide) dL_731 dL_732 dL_734 (by decide) dL_735 dL_736 ?_
  refine l_arg (k := 2) C hj (by decide) dL_737 dL_738 dL_740 (by decide) dL_741 dL_742 ?_
  refine l_argZ (k := 3) C hj (by decide) dL_743 dL_744 dL_746 (by decide) dL_747 dL_748 dL_749 dL_752 dL_753 dL_756 ?_
  refine l_arg (k := 4) C hj (by decide) dL_757 dL_758 dL_760 (by decide) dL_761 dL_762 ?_
  refine l_callM [.long v] C yy_X11_within rfl wK_86 (sM_within 1000 (Nat.le_of_ble_eq_true rfl) _ _ _ _ _ _ _ h2) (Nat.le_refl _) rfl rfl rfl rfl (Nat.le_of_ble_eq_true rfl) hn dL_763 ?_
  exact l_lcmpe (tgt := 1170) C dL_766 dL_767 (by decide) (K _ _ _ _ _ _ _ hR (Nat.le_succ _))
theorem lc_half {Rel : hRel} (hs : stp_half Rel) {Ic : hI} {Jc : hJ} {B : Bool × Bool} {Im : hI} {Jm : hJ} (hR : Rel Ic Jc B Im Jm) (C : LC p l s m meth c b L xs D cy αc αm oa) (hj : j + 6 ≤ L) (hn : n ≤ 590) (K : ∀ (Ic : hI) (Jc : hJ) (B : Bool × Bool) (Im : hI) (Jm : hJ) (f : Nat → Int64) (n2 : Nat), Rel Ic Jc B Im Jm → n2 ≤ n + 1 → LW p l e s m below meth c b D cy αc αm oa (lB b αc αm oa (nI j)) 1170 [] (Ic, Jc, RM B) (Im, Jm, RMm) f n2) : LW p l e s m below meth c b D cy αc αm oa (lB b αc αm oa (nI j)) 772 [] (Ic, Jc, RM B) (Im, Jm, RMm) f n := by
  replace hn : n ≤ 600 := by omega
  obtain ⟨v, Ic', Jc', Im', Jm', h1, h2, hR⟩ := hs _ _ _ _ _ hR (xs (j + 1))
  refine l_aload_n C dL_772 rfl rfl ?_
  refine l_arg (k := 1) C hj (by decide) dL_773 dL_774 dL_776 (by decide) dL_777 dL_778 ?_
  refine l_callC [] C yy_X10_half rfl wK_87 (sC_half 1000 (Nat.le_of_ble_eq_true rfl) _ _ _ _ _ h1) (Nat.le_refl _) rfl rfl rfl rfl (by decide) hn dL_779 ?_
  refine l_aload_n C dL_782 rfl rfl ?_
  refine l_arg (k := 1) C hj (by decide) dL_783 dL_784 dL_786 (by decide) dL_787 dL_788 ?_
  refine l_callM [.int v] C yy_X11_half rfl wK_90 (sM_half 1000 (Nat.le_of_ble_eq_true rfl) _ _ _ _ h2) (Nat.le_refl _) rfl rfl rfl rfl (Nat.le_of_ble_eq_true rfl) hn dL_789 ?_
  exact l_icmp_eq (tgt := 1170) C dL_792 (by decide) (fun _ => K _ _ _ _ _ _ _ hR (Nat.le_succ _)) (fun h => absurd rfl h)
theorem lc_guessed {Rel : hRel} (hs : stp_guessed Rel) {Ic : hI} {Jc : hJ} {B : Bool × Bool} {Im : hI} {Jm : hJ} (hR : Rel Ic Jc B Im Jm) (C : LC p l s m meth c b L xs D cy αc αm oa) (hj : j + 6 ≤ L) (hn : n ≤ 590) (K : ∀ (Ic : hI) (Jc : hJ) (B : Bool × Bool) (Im : hI) (Jm : hJ) (f : Nat → Int64) (n2 : Nat), Rel Ic Jc B Im Jm → n2 ≤ n + 1 → LW p l e s m below meth c b D cy αc αm oa (lB b αc αm oa (nI j)) 1170 [] (Ic, Jc, RM B) (Im, Jm, RMm) f n2) : LW p l e s m below meth c b D cy αc αm oa (lB b αc αm oa (nI j)) 797 [] (Ic, Jc, RM B) (Im, Jm, RMm) f n := by
  replace hn : n ≤ 600 := by omega
  obtain ⟨v, Ic', Im', h1, h2, hR⟩ := hs _ _ _ _ _ hR (xs (j + 1)) (xs (j + 2))
  refine l_aload_n C dL_797 rfl rfl ?_
  refine l_arg (k := 1) C hj (by decide) dL_798 dL_799 dL_801 (by decide) dL_802 dL_803 ?_
  refine l_arg (k := 2) C hj (by decide) dL_804 dL_805 dL_807 (by decide) dL_808 dL_809 ?_
  refine l_callC [] C yy_X10_guessed rfl wK_91 (sC_guessed 1000 (Nat.le_of_ble_eq_true rfl) _ _ _ _ _ _ h1) (Nat.le_refl _) rfl rfl rfl rfl (by decide) hn dL_810 ?_
  refine l_aload_n C dL_813 rfl rfl ?_
  refine l_arg (k := 1) C hj (by decide) dL_814 dL_815 dL_817 (by decide) dL_818 dL_819 ?_
  refine l_arg (k := 2) C hj (by decide) dL_820 dL_821 dL_823 (by decide) dL_824 dL_825 ?_
  refine l_callM [.long v] C yy_X11_guessed rfl wK_95 (sM_guessed 1000 (Nat.le_of_ble_eq_true rfl) _ _ _ _ _ h2) (Nat.le_refl _) rfl rfl rfl rfl (Nat.le_of_ble_eq_true rfl) hn dL_826 ?_
  exact l_lcmpe (tgt := 1170) C dL_829 dL_830 (by decide) (K _ _ _ _ _ _ _ hR (Nat.le_succ _))
theorem lc_ahead {Rel : hRel} (hs : stp_ahead Rel) {Ic : hI} {Jc : hJ} {B : Bool × Bool} {Im : hI} {Jm : hJ} (hR : Rel Ic Jc B Im Jm) (C : LC p l s m meth c b L xs D cy αc αm oa) (hj : j + 6 ≤ L) (hn : n ≤ 590) (K : ∀ (Ic : hI) (Jc : hJ) (B : Bool × Bool) (Im : hI) (Jm : hJ) (f : Nat → Int64) (n2 : Nat), Rel Ic Jc B Im Jm → n2 ≤ n + 1 → LW p l e s m below meth c b D cy αc αm oa (lB b αc αm oa (nI j)) 1170 [] (Ic, Jc, RM B) (Im, Jm, RMm) f n2) : LW p l e s m below meth c b D cy αc αm oa (lB b αc αm oa (nI j)) 835 [] (Ic, Jc, RM B) (Im, Jm, RMm) f n := by
  replace hn : n ≤ 600 := by omega
  obtain ⟨v, Ic', Im', h1, h2, hR⟩ := hs _ _ _ _ _ hR (xs (j + 1)) (xs (j + 2)) (xs (j + 3))
  refine l_aload_n C dL_835 rfl rfl ?_
  refine l_arg (k := 1) C hj (by decide) dL_836 dL_837 dL_839 (by decide) dL_840 dL_841 ?_
  refine l_arg (k := 2) C hj (by decide) dL_842 dL_843 dL_845 (by decide) dL_846 dL_847 ?_
  refine l_arg (k := 3) C hj (by decide) dL_848 dL_849 dL_851 (by decide) dL_852 dL_853 ?_
  refine l_callC [] C yy_X10_ahead rfl wK_96 (sC_ahead 1000 (Nat.le_of_ble_eq_true rfl) _ _ _ _ _ _ _ h1) (Nat.le_refl _) rfl rfl rfl rfl (by decide) hn dL_854 ?_
  refine l_aload_n C dL_857 rfl rfl ?_
  refine l_arg (k := 1) C hj (by decide) dL_858 dL_859 dL_861 (by decide) dL_862 dL_863 ?_
  refine l_arg (k := 2) C hj (by decide) dL_864 dL_865 dL_867 (by decide) dL_868 dL_869 ?_
  refine l_arg (k := 3) C hj (by decide) dL_870 dL_871 dL_873 (by decide) dL_874 dL_875 ?_
  refine l_callM [.long v] C yy_X11_ahead rfl wK_100 (sM_ahead 1000 (Nat.le_of_ble_eq_true rfl) _ _ _ _ _ _ h2) (Nat.le_refl _) rfl rfl rfl rfl (Nat.le_of_ble_eq_true rfl) hn dL_876 ?_
  exact l_lcmpe (tgt := 1170) C dL_879 dL_880 (by decide) (K _ _ _ _ _ _ _ hR (Nat.le_succ _))
theorem lc_refutes {Rel : hRel} (hs : stp_refutes Rel) {Ic : hI} {Jc : hJ} {B : Bool × Bool} {Im : hI} {Jm : hJ} (hR : Rel Ic Jc B Im Jm) (C : LC p l s m meth c b L xs D cy αc αm oa) (hj : j + 6 ≤ L) (hn : n ≤ 590) (K : ∀ (Ic : hI) (Jc : hJ) (B : Bool × Bool) (Im : hI) (Jm : hJ) (f : Nat → Int64) (n2 : Nat), Rel Ic Jc B Im Jm → n2 ≤ n + 1 → LW p l e s m below meth c b D cy αc αm oa (lB b αc αm oa (nI j)) 1170 [] (Ic, Jc, RM B) (Im, Jm, RMm) f n2) : LW p l e s m below meth c b D cy αc αm oa (lB b αc αm oa (nI j)) 885 [] (Ic, Jc, RM B) (Im, Jm, RMm) f n := by
  replace hn : n ≤ 600 := by omega
  obtain ⟨v, Ic', Im', h1, h2, hR⟩ := hs _ _ _ _ _ hR (xs (j + 1))
  refine l_aload_n C dL_885 rfl rfl ?_
  refine l_arg (k := 1) C hj (by decide) dL_886 dL_887 dL_889 (by decide) dL_890 dL_891 ?_
  refine l_callC [] C yy_X10_refutes rfl wK_101 (sC_refutes 1000 (Nat.le_of_ble_eq_true rfl) _ _ _ _ _ h1) (Nat.le_refl _) rfl rfl rfl rfl (by decide) hn dL_892 ?_
  refine l_aload_n C dL_895 rfl rfl ?_
  refine l_arg (k := 1) C hj (by decide) dL_896 dL_897 dL_899 (by decide) dL_900 dL_901 ?_
  refine l_callM [.int v] C yy_X11_refutes rfl wK_104 (sM_refutes 1000 (Nat.le_of_ble_eq_true rfl) _ _ _ _ h2) (Nat.le_refl _) rfl rfl rfl rfl (Nat.le_of_ble_eq_true rfl) hn dL_902 ?_
  exact l_icmp_eq (tgt := 1170) C dL_905 (by decide) (fun _ => K _ _ _ _ _ _ _ hR (Nat.le_succ _)) (fun h => absurd rfl h)
theorem lc_best {Rel : hRel} (hs : stp_best Rel) {Ic : hI} {Jc : hJ} {B : Bool × Bool} {Im : hI} {Jm : hJ} (hR : Rel Ic Jc B Im Jm) (C : LC p l s m meth c b L xs D cy αc αm oa) (hj : j + 6 ≤ L) (hn : n ≤ 590) (K : ∀ (Ic : hI) (Jc : hJ) (B : Bool × Bool) (Im : hI) (Jm : hJ) (f : Nat → Int64) (n2 : Nat), Rel Ic Jc B Im Jm → n2 ≤ n + 1 → LW p l e s m below meth c b D cy αc αm oa (lB b αc αm oa (nI j)) 1170 [] (Ic, Jc, RM B) (Im, Jm, RMm) f n2) : LW p l e s m below meth c b D cy αc αm oa (lB b αc αm oa (nI j)) 910 [] (Ic, Jc, RM B) (Im, Jm, RMm) f n := by
  replace hn : n ≤ 600 := by omega
  obtain ⟨v, Ic', Jc', Im', Jm', h1, h2, hR⟩ := hs _ _ _ _ _ hR (xs (j + 1)) (xs (j + 2))
  refine l_aload_n C dL_910 rfl rfl ?_
  refine l_arg (k := 1) C hj (by decide) dL_911 dL_912 dL_914 (by decide) dL_915 dL_916 ?_
  refine l_arg (k := 2) C hj (by decide) dL_917 dL_918 dL_920 (by decide) dL_921 dL_922 ?_
  refine l_callC [] C yy_X10_best rfl wK_105 (sC_best 1000 (Nat.le_of_ble_eq_true rfl) _ _ _ _ _ _ h1) (Nat.le_refl _) rfl rfl rfl rfl (by decide) hn dL_923 ?_
  refine l_aload_n C dL_926 rfl rfl ?_
  refine l_arg (k := 1) C hj (by decide) dL_927 dL_928 dL_930 (by decide) dL_931 dL_932 ?_
  refine l_arg (k := 2) C hj (by decide) dL_933 dL_934 dL_936 (by decide) dL_937 dL_938 ?_
  refine l_callM [.long v] C yy_X11_best rfl wK_108 (sM_best 1000 (Nat.le_of_ble_eq_true rfl) _ _ _ _ _ h2) (Nat.le_refl _) rfl rfl rfl rfl (Nat.le_of_ble_eq_true rfl) hn dL_939 ?_
  exact l_lcmpe (tgt := 1170) C dL_942 dL_943 (by decide) (K _ _ _ _ _ _ _ hR (Nat.le_succ _))
theorem lc_run {Rel : hRel} (hs : stp_run Rel) {Ic : hI} {Jc : hJ} {B : Bool × Bool} {Im : hI} {Jm : hJ} (hR : Rel Ic Jc B Im Jm) (C : LC p l s m meth c b L xs D cy αc αm oa) (hj : j + 6 ≤ L) (hn : n ≤ 590) (K : ∀ (Ic : hI) (Jc : hJ) (B : Bool × Bool) (Im : hI) (Jm : hJ) (f : Nat → Int64) (n2 : Nat), Rel Ic Jc B Im Jm → n2 ≤ n + 1 → LW p l e s m below meth c b D cy αc αm oa (lB b αc αm oa (nI j)) 1170 [] (Ic, Jc, RM B) (Im, Jm, RMm) f n2) : LW p l e s m below meth c b D cy αc αm oa (lB b αc αm oa (nI j)) 948 [] (Ic, Jc, RM B) (Im, Jm, RMm) f n := by
  replace hn : n ≤ 600 := by omega
  obtain ⟨v, Ic', Im', h1, h2, hR⟩ := hs _ _ _ _ _ hR (xs (j + 1)) (xs (j + 2)) (xs (j + 3)) (xs (j + 4)) (xs (j + 5))
  refine l_aload_n C dL_948 rfl rfl ?_
  refine l_arg (k := 1) C hj (by decide) dL_949 dL_950 dL_952 (by decide) dL_953 dL_954 ?_
  refine l_arg (k := 2) C hj (by decide) dL_955 dL_956 dL_958 (by decide) dL_959 dL_960 ?_
  refine l_arg (k := 3) C hj (by decide) dL_961 dL_962 dL_964 (by decide) dL_965 dL_966 ?_
  refine l_arg (k := 4) C hj (by decide) dL_967 dL_968 dL_970 (by decide) dL_971 dL_972 ?_
  refine l_arg (k := 5) C hj (by decide) dL_973 dL_974 dL_976 (by decide) dL_977 dL_978 ?_
  refine l_callC [] C yy_X10_run rfl wK_109 (sC_run 1000 (Nat.le_of_ble_eq_true rfl) _ _ _ _ _ _ _ _ _ h1) (Nat.le_refl _) rfl rfl rfl rfl (by decide) hn dL_979 ?_
  refine l_aload_n C dL_982 rfl rfl ?_
  refine l_arg (k := 1) C hj (by decide) dL_983 dL_984 dL_986 (by decide) dL_987 dL_988 ?_
  refine l_arg (k := 2) C hj (by decide) dL_989 dL_990 dL_992 (by decide) dL_993 dL_994 ?_
  refine l_arg (k := 3) C hj (by decide) dL_995 dL_996 dL_998 (by decide) dL_999 dL_1000 ?_
  refine l_arg (k := 4) C hj (by decide) dL_1001 dL_1002 dL_1004 (by decide) dL_1005 dL_1006 ?_
  refine l_arg (k := 5) C hj (by decide) dL_1007 dL_1008 dL_1010 (by decide) dL_1011 dL_1012 ?_
  refine l_callM [.int v] C yy_X11_run rfl wK_112 (sM_run 1000 (Nat.le_of_ble_eq_true rfl) _ _ _ _ _ _ _ _ h2) (Nat.le_refl _) rfl rfl rfl rfl (Nat.le_of_ble_eq_true rfl) hn dL_1013 ?_
  exact l_icmp_eq (tgt := 1170) C dL_1016 (by decide) (fun _ => K _ _ _ _ _ _ _ hR (Nat.le_succ _)) (fun h => absurd rfl h)
theorem lc_bind {Rel : hRel} (hs : stp_bind Rel) {Ic : hI} {Jc : hJ} {B : Bool × Bool} {Im : hI} {Jm : hJ} (hR : Rel Ic Jc B Im Jm) (C : LC p l s m meth c b L xs D cy αc αm oa) (hj : j + 6 ≤ L) (hn : n ≤ 590) (K : ∀ (Ic : hI) (Jc : hJ) (B : Bool × Bool) (Im : hI) (Jm : hJ) (f : Nat → Int64) (n2 : Nat), Rel Ic Jc B Im Jm → n2 ≤ n + 1 → LW p l e s m below meth c b D cy αc αm oa (lB b αc αm oa (nI j)) 1170 [] (Ic, Jc, RM B) (Im, Jm, RMm) f n2) : LW p l e s m below meth c b D cy αc αm oa (lB b αc αm oa (nI j)) 1021 [] (Ic, Jc, RM B) (Im, Jm, RMm) f n := by
  replace hn : n ≤ 600 := by omega
  obtain ⟨v, Ic', Im', h1, h2, hR⟩ := hs _ _ _ _ _ hR (xs (j + 1)) (xs (j + 2))
  refine l_aload_n C dL_1021 rfl rfl ?_
  refine l_arg (k := 1) C hj (by decide) dL_1022 dL_1023 dL_1025 (by decide) dL_1026 dL_1027 ?_
  refine l_arg (k := 2) C hj (by decide) dL_1028 dL_1029 dL_1031 (by decide) dL_1032 dL_1033 ?_
  refine l_callC [] C yy_X10_bind rfl wK_113 (sC_bind 1000 (Nat.le_of_ble_eq_true rfl) _ _ _ _ _ _ h1) (Nat.le_refl _) rfl rfl rfl rfl (by decide) hn dL_1034 ?_
  refine l_aload_n C dL_1037 rfl rfl ?_
  refine l_arg (k := 1) C hj (by decide) dL_1038 dL_1039 dL_1041 (by decide) dL_1042 dL_1043 ?_
  refine l_arg (k := 2) C hj (by decide) dL_1044 dL_1045 dL_1047 (by decide) dL_1048 dL_1049 ?_
  refine l_callM [.int v] C yy_X11_bind rfl wK_117 (sM_bind 1000 (Nat.le_of_ble_eq_true rfl) _ _ _ _ _ h2) (Nat.le_refl _) rfl rfl rfl rfl (Nat.le_of_ble_eq_true rfl) hn dL_1050 ?_
  exact l_icmp_eq (tgt := 1170) C dL_1053 (by decide) (fun _ => K _ _ _ _ _ _ _ hR (Nat.le_succ _)) (fun h => absurd rfl h)
theorem lc_price {Rel : hRel} (hs : stp_price Rel) {Ic : hI} {Jc : hJ} {B : Bool × Bool} {Im : hI} {Jm : hJ} (hR : Rel Ic Jc B Im Jm) (C : LC p l s m meth c b L xs D cy αc αm oa) (hj : j + 6 ≤ L) (hn : n ≤ 590) (K : ∀ (Ic : hI) (Jc : hJ) (B : Bool × Bool) (Im : hI) (Jm : hJ) (f : Nat → Int64) (n2 : Nat), Rel Ic Jc B Im Jm → n2 ≤ n + 1 → LW p l e s m below meth c b D cy αc αm oa (lB b αc αm oa (nI j)) 1170 [] (Ic, Jc, RM B) (Im, Jm, RMm) f n2) : LW p l e s m below meth c b D cy αc αm oa (lB b αc αm oa (nI j)) 1058 [] (Ic, Jc, RM B) (Im, Jm, RMm) f n := by
  replace hn : n ≤ 600 := by omega
  obtain ⟨v, Ic', Im', h1, h2, hR⟩ := hs _ _ _ _ _ hR (xs (j + 1)) (xs (j + 2))
  refine l_aload_n C dL_1058 rfl rfl ?_
  refine l_arg (k := 1) C hj (by decide) dL_1059 dL_1060 dL_1062 (by decide) dL_1063 dL_1064 ?_
  refine l_arg (k := 2) C hj (by decide) dL_1065 dL_1066 dL_1068 (by decide) dL_1069 dL_1070 ?_
  refine l_callC [] C yy_X10_price rfl wK_118 (sC_price 1000 (Nat.le_of_ble_eq_true rfl) _ _ _ _ _ _ h1) (Nat.le_refl _) rfl rfl rfl rfl (by decide) hn dL_1071 ?_
  refine l_aload_n C dL_1074 rfl rfl ?_
  refine l_arg (k := 1) C hj (by decide) dL_1075 dL_1076 dL_1078 (by decide) dL_1079 dL_1080 ?_
  refine l_arg (k := 2) C hj (by decide) dL_1081 dL_1082 dL_1084 (by decide) dL_1085 dL_1086 ?_
  refine l_callM [.int v] C yy_X11_price rfl wK_121 (sM_price 1000 (Nat.le_of_ble_eq_true rfl) _ _ _ _ _ h2) (Nat.le_refl _) rfl rfl rfl rfl (Nat.le_of_ble_eq_true rfl) hn dL_1087 ?_
  exact l_icmp_eq (tgt := 1170) C dL_1090 (by decide) (fun _ => K _ _ _ _ _ _ _ hR (Nat.le_succ _)) (fun h => absurd rfl h)
theorem lc_most {Rel : hRel} (hs : stp_most Rel) {Ic : hI} {Jc : hJ} {B : Bool × Bool} {Im : hI} {Jm : hJ} (hR : Rel Ic Jc B Im Jm) (C : LC p l s m meth c b L xs D cy αc αm oa) (hj : j + 6 ≤ L) (hn : n ≤ 590) (K : ∀ (Ic : hI) (Jc : hJ) (B : Bool × Bool) (Im : hI) (Jm : hJ) (f : Nat → Int64) (n2 : Nat), Rel Ic Jc B Im Jm → n2 ≤ n + 1 → LW p l e s m below meth c b D cy αc αm oa (lB b αc αm oa (nI j)) 1170 [] (Ic, Jc, RM B) (Im, Jm, RMm) f n2) : LW p l e s m below meth c b D cy αc αm oa (lB b αc αm oa (nI j)) 1095 [] (Ic, Jc, RM B) (Im, Jm, RMm) f n := by
  replace hn : n ≤ 600 := by omega
  obtain ⟨v, Ic', Jc', Im', Jm', h1, h2, hR⟩ := hs _ _ _ _ _ hR (xs (j + 1))
  refine l_aload_n C dL_1095 rfl rfl ?_
  refine l_arg (k := 1) C hj (by decide) dL_1096 dL_1097 dL_1099 (by decide) dL_1100 dL_1101 ?_
  refine l_callC [] C yy_X10_most rfl wK_122 (sC_most 1000 (Nat.le_of_ble_eq_true rfl) _ _ _ _ _ h1) (Nat.le_refl _) rfl rfl rfl rfl (by decide) hn dL_1102 ?_
  refine l_aload_n C dL_1105 rfl rfl ?_
  refine l_arg (k := 1) C hj (by decide) dL_1106 dL_1107 dL_1109 (by decide) dL_1110 dL_1111 ?_
  refine l_callM [.int v] C yy_X11_most rfl wK_125 (sM_most 1000 (Nat.le_of_ble_eq_true rfl) _ _ _ _ h2) (Nat.le_refl _) rfl rfl rfl rfl (Nat.le_of_ble_eq_true rfl) hn dL_1112 ?_
  exact l_icmp_eq (tgt := 1170) C dL_1115 (by decide) (fun _ => K _ _ _ _ _ _ _ hR (Nat.le_succ _)) (fun h => absurd rfl h)
theorem lc_status {Rel : hRel} (hs : stp_status Rel) {Ic : hI} {Jc : hJ} {B : Bool × Bool} {Im : hI} {Jm : hJ} (hR : Rel Ic Jc B Im Jm) (C : LC p l s m meth c b L xs D cy αc αm oa) (hj : j + 6 ≤ L) (hn : n ≤ 590) (K : ∀ (Ic : hI) (Jc : hJ) (B : Bool × Bool) (Im : hI) (Jm : hJ) (f : Nat → Int64) (n2 : Nat), Rel Ic Jc B Im Jm → n2 ≤ n + 1 → LW p l e s m below meth c b D cy αc αm oa (lB b αc αm oa (nI j)) 1170 [] (Ic, Jc, RM B) (Im, Jm, RMm) f n2) : LW p l e s m below meth c b D cy αc αm oa (lB b αc αm oa (nI j)) 1120 [] (Ic, Jc, RM B) (Im, Jm, RMm) f n := by
  replace hn : n ≤ 600 := by omega
  obtain ⟨v, Im', h1, h2, hR⟩ := hs _ _ _ _ _ hR (xs (j + 1))
  refine l_aload_n C dL_1120 rfl rfl ?_
  refine l_arg (k := 1) C hj (by decide) dL_1121 dL_1122 dL_1124 (by decide) dL_1125 dL_1126 ?_
  refine l_callC [] C yy_X10_status rfl wK_126 (sC_status 1000 (Nat.le_of_ble_eq_true rfl) _ _ _ _ _ h1) (Nat.le_refl _) rfl rfl rfl rfl (by decide) hn dL_1127 ?_
  refine l_aload_n C dL_1130 rfl rfl ?_
  refine l_arg (k := 1) C hj (by decide) dL_1131 dL_1132 dL_1134 (by decide) dL_1135 dL_1136 ?_
  refine l_callM [.int v] C yy_X11_status rfl wK_129 (sM_status 1000 (Nat.le_of_ble_eq_true rfl) _ _ _ _ h2) (Nat.le_refl _) rfl rfl rfl rfl (Nat.le_of_ble_eq_true rfl) hn dL_1137 ?_
  exact l_icmp_eq (tgt := 1170) C dL_1140 (by decide) (fun _ => K _ _ _ _ _ _ _ hR (Nat.le_succ _)) (fun h => absurd rfl h)
theorem lc_count {Rel : hRel} (hs : stp_count Rel) {Ic : hI} {Jc : hJ} {B : Bool × Bool} {Im : hI} {Jm : hJ} (hR : Rel Ic Jc B Im Jm) (C : LC p l s m meth c b L xs D cy αc αm oa) (hj : j + 6 ≤ L) (hn : n ≤ 590) (K : ∀ (Ic : hI) (Jc : hJ) (B : Bool × Bool) (Im : hI) (Jm : hJ) (f : Nat → Int64) (n2 : Nat), Rel Ic Jc B Im Jm → n2 ≤ n + 1 → LW p l e s m below meth c b D cy αc αm oa (lB b αc αm oa (nI j)) 1170 [] (Ic, Jc, RM B) (Im, Jm, RMm) f n2) : LW p l e s m below meth c b D cy αc αm oa (lB b αc αm oa (nI j)) 1145 [] (Ic, Jc, RM B) (Im, Jm, RMm) f n := by
  replace hn : n ≤ 600 := by omega
  obtain ⟨v, Im', h1, h2, hR⟩ := hs _ _ _ _ _ hR (xs (j + 1))
  refine l_aload_n C dL_1145 rfl rfl ?_
  refine l_arg (k := 1) C hj (by decide) dL_1146 dL_1147 dL_1149 (by decide) dL_1150 dL_1151 ?_
  refine l_callC [] C yy_X10_count rfl wK_130 (sC_count 1000 (Nat.le_of_ble_eq_true rfl) _ _ _ _ _ h1) (Nat.le_refl _) rfl rfl rfl rfl (by decide) hn dL_1152 ?_
  refine l_aload_n C dL_1155 rfl rfl ?_
  refine l_arg (k := 1) C hj (by decide) dL_1156 dL_1157 dL_1159 (by decide) dL_1160 dL_1161 ?_
  refine l_callM [.int v] C yy_X11_count rfl wK_133 (sM_count 1000 (Nat.le_of_ble_eq_true rfl) _ _ _ _ h2) (Nat.le_refl _) rfl rfl rfl rfl (Nat.le_of_ble_eq_true rfl) hn dL_1162 ?_
  exact l_icmp_eq (tgt := 1170) C dL_1165 (by decide) (fun _ => K _ _ _ _ _ _ _ hR (Nat.le_succ _)) (fun h => absurd rfl h)
theorem l_tail (C : LC p l s m meth c b L xs D cy αc αm oa) (hj : j + 6 ≤ L) (K : LW p l e s m below meth c b D cy αc αm oa (lB b αc αm oa (nI (j + 6))) 23 [] Mc Mm f n) : LW p l e s m below meth c b D cy αc αm oa (lB b αc αm oa (nI j)) 1170 [] Mc Mm f n := by
  refine l_iinc (v := nI (j + 6)) C dL_1170 rfl (by rw [← nI_add]; rfl) (by decide) rfl ?_
  refine l_sub (lv' := lB b αc αm oa (nI (j + 6))) [1, 2, 3, 4, 0] rfl ?_
  exact l_goto (tgt := 23) C dL_1173 (by decide) K
theorem and31 (x : Int32) : 0 ≤ (x &&& 31).toInt ∧ (x &&& 31).toInt < 32 := by
  have h : (x &&& 31).toBitVec.toNat < 32 := by
    rw [Int32.toBitVec_and, BitVec.toNat_and]
    have e31 : (31 : Int32).toBitVec.toNat = 2 ^ 5 - 1 := by decide
    rw [e31, Nat.and_two_pow_sub_one_eq_mod]
    exact Nat.mod_lt _ (by decide)
  have h2 : (x &&& 31).toInt = ((x &&& 31).toBitVec.toNat : Int) := by
    show (x &&& 31).toBitVec.toInt = _
    rw [BitVec.toInt_eq_toNat_of_lt (by omega)]
  omega
def hStp (Rel : hRel) : Prop := stp_feed Rel ∧ stp_end Rel ∧ stp_fault Rel ∧ stp_loop Rel ∧ stp_guess Rel ∧ stp_rule Rel ∧ stp_choices Rel ∧ stp_choice Rel ∧ stp_leads Rel ∧ stp_paid Rel ∧ stp_ends Rel ∧ stp_unsure Rel ∧ stp_plan Rel ∧ stp_within Rel ∧ stp_half Rel ∧ stp_guessed Rel ∧ stp_ahead Rel ∧ stp_refutes Rel ∧ stp_best Rel ∧ stp_run Rel ∧ stp_bind Rel ∧ stp_price Rel ∧ stp_most Rel ∧ stp_status Rel ∧ stp_count Rel
theorem ltI6 {L j : Nat} (hL : L ≤ 3072) (hj : j ≤ 3100) (h : L < j + 6) : nI L - nI 6 < nI j := by
  rw [Int32.lt_iff_toInt_lt, Int32.toInt_sub, nI_toInt (by omega), nI_toInt (by omega), nI_toInt (by omega)]
  have hb : ((L : Int) - (6 : Nat)).bmod (2 ^ 32) = (L : Int) - 6 := by
    rw [Int.bmod_eq_of_le (by omega) (by omega)]
    omega
  rw [hb]
  omega
theorem l_loop {Rel : hRel} (hs : hStp Rel) (C : LC p l s m meth c b L xs D cy αc αm oa) : ∀ (k j n : Nat) (Ic : hI) (Jc : hJ) (B : Bool × Bool) (Im : hI) (Jm : hJ) (f : Nat → Int64), L < j + 6 + k → j ≤ 6 * 512 → 6 * n ≤ j → Rel Ic Jc B Im Jm → LW p l e s m below meth c b D cy αc αm oa (lB b αc αm oa (nI j)) 23 [] (Ic, Jc, RM B) (Im, Jm, RMm) f n := by
  intro k
  induction k with
  | zero =>
    intro j n Ic Jc B Im Jm f hk hj hn hR
    have hL := C.2.1
    refine l_iload C dL_23 rfl ?_
    refine l_aload_n C dL_25 rfl rfl ?_
    refine l_slen C dL_26 ?_
    refine l_bipush (v := nI 6) C dL_27 (by decide) ?_
    refine l_isub C dL_29 ?_
    refine l_icmp_gt (tgt := 1176) C dL_30 (by decide) (fun _ => ?_) (fun h => ?_)
    · refine l_iconst (v := 1) C dL_1176 (by decide) ?_
      exact l_ret C (by omega) dL_1177
    · exact absurd (ltI6 (by omega) (by omega) (by omega)) h
  | succ k ih =>
    intro j n Ic Jc B Im Jm f hk hj hn hR
    have hL := C.2.1
    refine l_iload C dL_23 rfl ?_
    refine l_aload_n C dL_25 rfl rfl ?_
    refine l_slen C dL_26 ?_
    refine l_bipush (v := nI 6) C dL_27 (by decide) ?_
    refine l_isub C dL_29 ?_
    refine l_icmp_gt (tgt := 1176) C dL_30 (by decide) (fun _ => ?_) (fun h => ?_)
    · refine l_iconst (v := 1) C dL_1176 (by decide) ?_
      exact l_ret C (by omega) dL_1177
    · have hjL : j + 6 ≤ L := by
        by_cases z : j + 6 ≤ L
        · exact z
        · exact absurd (ltI6 (by omega) (by omega) (by omega)) h
      have K : ∀ (Ic : hI) (Jc : hJ) (B : Bool × Bool) (Im : hI) (Jm : hJ) (f : Nat → Int64) (n2 : Nat), Rel Ic Jc B Im Jm → n2 ≤ n + 1 → LW p l e s m below meth c b D cy αc αm oa (lB b αc αm oa (nI j)) 1170 [] (Ic, Jc, RM B) (Im, Jm, RMm) f n2 := fun Ic Jc B Im Jm f n2 hR hn2 => l_tail C hjL (ih (j + 6) n2 Ic Jc B Im Jm f (by omega) (by omega) (by omega) hR)
      have hn5 : n ≤ 590 := by omega
      refine l_aload_n C dL_33 rfl rfl ?_
      refine l_iload C dL_34 rfl ?_
      refine l_sld C (vp_in_nI (by omega) (by omega)) dL_36 ?_
      rw [nI_clamp (by omega)]
      refine l_bipush (v := 31) C dL_37 (by decide) ?_
      refine l_iand C dL_39 ?_
      obtain ⟨a0, a1⟩ := and31 (xs j)
      generalize xs j &&& 31 = x at a0 a1 ⊢
      have hx : x.toInt = 0 ∨ x.toInt = 1 ∨ x.toInt = 2 ∨ x.toInt = 3 ∨ x.toInt = 4 ∨ x.toInt = 5 ∨ x.toInt = 6 ∨ x.toInt = 7 ∨ x.toInt = 8 ∨ x.toInt = 9 ∨ x.toInt = 10 ∨ x.toInt = 11 ∨ x.toInt = 12 ∨ x.toInt = 13 ∨ x.toInt = 14 ∨ x.toInt = 15 ∨ x.toInt = 16 ∨ x.toInt = 17 ∨ x.toInt = 18 ∨ x.toInt = 19 ∨ x.toInt = 20 ∨ x.toInt = 21 ∨ x.toInt = 22 ∨ x.toInt = 23 ∨ x.toInt = 24 ∨ 24 < x.toInt := by omega
      rcases hx with h0 | h0 | h0 | h0 | h0 | h0 | h0 | h0 | h0 | h0 | h0 | h0 | h0 | h0 | h0 | h0 | h0 | h0 | h0 | h0 | h0 | h0 | h0 | h0 | h0 | h0
      · exact l_tableIn (off := 116) (tgt := 156) C dL_40 (by omega) (by omega) (by rw [h0]; rfl) (by decide) (lc_feed hs.1 hR C hjL hn5 K)
      · exact l_tableIn (off := 189) (tgt := 229) C dL_40 (by omega) (by omega) (by rw [h0]; rfl) (by decide) (lc_end hs.2.1 hR C hjL hn5 K)
      · exact l_tableIn (off := 214) (tgt := 254) C dL_40 (by omega) (by omega) (by rw [h0]; rfl) (by decide) (lc_fault hs.2.2.1 hR C hjL hn5 K)
      · exact l_tableIn (off := 239) (tgt := 279) C dL_40 (by omega) (by omega) (by rw [h0]; rfl) (by decide) (lc_loop hs.2.2.2.1 hR C hjL hn5 K)
      · exact l_tableIn (off := 252) (tgt := 292) C dL_40 (by omega) (by omega) (by rw [h0]; rfl) (by decide) (lc_guess hs.2.2.2.2.1 hR C hjL hn5 K)
      · exact l_tableIn (off := 265) (tgt := 305) C dL_40 (by omega) (by omega) (by rw [h0]; rfl) (by decide) (lc_rule hs.2.2.2.2.2.1 hR C hjL hn5 K)
      · exact l_tableIn (off := 290) (tgt := 330) C dL_40 (by omega) (by omega) (by rw [h0]; rfl) (by decide) (lc_choices hs.2.2.2.2.2.2.1 hR C hjL hn5 K)
      · exact l_tableIn (off := 315) (tgt := 355) C dL_40 (by omega) (by omega) (by rw [h0]; rfl) (by decide) (lc_choice hs.2.2.2.2.2.2.2.1 hR C hjL hn5 K)
      · exact l_tableIn (off := 395) (tgt := 435) C dL_40 (by omega) (by omega) (by rw [h0]; rfl) (by decide) (lc_leads hs.2.2.2.2.2.2.2.2.1 hR C hjL hn5 K)
      · exact l_tableIn (off := 444) (tgt := 484) C dL_40 (by omega) (by omega) (by rw [h0]; rfl) (by decide) (lc_paid hs.2.2.2.2.2.2.2.2.2.1 hR C hjL hn5 K)
      · exact l_tableIn (off := 510) (tgt := 550) C dL_40 (by omega) (by omega) (by rw [h0]; rfl) (by decide) (lc_ends hs.2.2.2.2.2.2.2.2.2.2.1 hR C hjL hn5 K)
      · exact l_tableIn (off := 576) (tgt := 616) C dL_40 (by omega) (by omega) (by rw [h0]; rfl) (by decide) (lc_unsure hs.2.2.2.2.2.2.2.2.2.2.2.1 hR C hjL hn5 K)
      · exact l_tableIn (off := 589) (tgt := 629) C dL_40 (by omega) (by omega) (by rw [h0]; rfl) (by decide) (lc_plan hs.2.2.2.2.2.2.2.2.2.2.2.2.1 hR C hjL hn5 K)
      · exact l_tableIn (off := 654) (tgt := 694) C dL_40 (by omega) (by omega) (by rw [h0]; rfl) (by decide) (lc_within hs.2.2.2.2.2.2.2.2.2.2.2.2.2.1 hR C hjL hn5 K)
      · exact l_tableIn (off := 732) (tgt := 772) C dL_40 (by omega) (by omega) (by rw [h0]; rfl) (by decide) (lc_half hs.2.2.2.2.2.2.2.2.2.2.2.2.2.2.1 hR C hjL hn5 K)
      · exact l_tableIn (off := 757) (tgt := 797) C dL_40 (by omega) (by omega) (by rw [h0]; rfl) (by decide) (lc_guessed hs.2.2.2.2.2.2.2.2.2.2.2.2.2.2.2.1 hR C hjL hn5 K)
      · exact l_tableIn (off := 795) (tgt := 835) C dL_40 (by omega) (by omega) (by rw [h0]; rfl) (by decide) (lc_ahead hs.2.2.2.2.2.2.2.2.2.2.2.2.2.2.2.2.1 hR C hjL hn5 K)
      · exact l_tableIn (off := 845) (tgt := 885) C dL_40 (by omega) (by omega) (by rw [h0]; rfl) (by decide) (lc_refutes hs.2.2.2.2.2.2.2.2.2.2.2.2.2.2.2.2.2.1 hR C hjL hn5 K)
      · exact l_tableIn (off := 870) (tgt := 910) C dL_40 (by omega) (by omega) (by rw [h0]; rfl) (by decide) (lc_best hs.2.2.2.2.2.2.2.2.2.2.2.2.2.2.2.2.2.2.1 hR C hjL hn5 K)
      · exact l_tableIn (off := 908) (tgt := 948) C dL_40 (by omega) (by omega) (by rw [h0]; rfl) (by decide) (lc_run hs.2.2.2.2.2.2.2.2.2.2.2.2.2.2.2.2.2.2.2.1 hR C hjL hn5 K)
      · exact l_tableIn (off := 981) (tgt := 1021) C dL_40 (by omega) (by omega) (by rw [h0]; rfl) (by decide) (lc_bind hs.2.2.2.2.2.2.2.2.2.2.2.2.2.2.2.2.2.2.2.2.1 hR C hjL hn5 K)
      · exact l_tableIn (off := 1018) (tgt := 1058) C dL_40 (by omega) (by omega) (by rw [h0]; rfl) (by decide) (lc_price hs.2.2.2.2.2.2.2.2.2.2.2.2.2.2.2.2.2.2.2.2.2.1 hR C hjL hn5 K)
      · exact l_tableIn (off := 1055) (tgt := 1095) C dL_40 (by omega) (by omega) (by rw [h0]; rfl) (by decide) (lc_most hs.2.2.2.2.2.2.2.2.2.2.2.2.2.2.2.2.2.2.2.2.2.2.1 hR C hjL hn5 K)
      · exact l_tableIn (off := 1080) (tgt := 1120) C dL_40 (by omega) (by omega) (by rw [h0]; rfl) (by decide) (lc_status hs.2.2.2.2.2.2.2.2.2.2.2.2.2.2.2.2.2.2.2.2.2.2.2.1 hR C hjL hn5 K)
      · exact l_tableIn (off := 1105) (tgt := 1145) C dL_40 (by omega) (by omega) (by rw [h0]; rfl) (by decide) (lc_count hs.2.2.2.2.2.2.2.2.2.2.2.2.2.2.2.2.2.2.2.2.2.2.2.2 hR C hjL hn5 K)
      · exact l_tableOut (tgt := 1170) C dL_40 (Or.inr h0) (by decide) (K _ _ _ _ _ _ _ hR (Nat.le_succ _))
end LL
