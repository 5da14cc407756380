/-! The reference's store stands for the model. -/
def isS (s : Nat) (q : RM) : Bool := Nat.beq q.1 s
def oT (o : OW) (T : St) (p : Nat) : Prop := T 1034 0 p = o.2.1 ∧ T 1035 0 p = o.1.1 ∧ T 1036 0 p = I o.1.2.1 ∧ T 1037 0 p = I o.1.2.2.1 ∧ T 1038 0 p = wfl o.1 ∧ T 1039 0 p = I o.2.2.1 ∧ T 1040 0 p = I o.2.2.2
def wT (w : WC) (T : St) (p : Nat) : Prop := T 1045 0 p = w.1 ∧ T 1046 0 p = I w.2.1 ∧ T 1047 0 p = I w.2.2.1 ∧ T 1048 0 p = wfl w
def rtG (gn : Nat → Nat) (gi : Nat → Int32) (T : St) : Prop := T 1001 0 0 = I (gn 1) ∧ T 1002 0 0 = I (gn 2) ∧ T 1003 0 0 = gi 4 ∧ T 1004 0 0 = I (gn 0) ∧ ∀ k, k < 4 → T 1012 0 k = gi k
def rtT (gt : Nat → List Int32) (T : St) : Prop := T 1013 0 0 = I (gt 0).length ∧ (∀ i x, (gt 0)[i]? = some x → T 1014 0 i = x) ∧ T 1015 0 0 = I (gt 1).length ∧ ∀ i x, (gt 1)[i]? = some x → T 1016 0 i = x
def rtP (ap : Nat → List Pkt) (T : St) : Prop := ∀ r, r < 4 → T 1005 0 r = I (ap r).length ∧ ∀ i q, (ap r)[i]? = some q → ∀ j, j < 8 → T 1006 0 (64 * r + 8 * i + j) = q.1 j
def rtO (an : Nat → Nat → Nat) (ao : Nat → Nat → OW) (T : St) : Prop := ∀ e, e < 2 → ∀ n, an e 3 < n → n ≤ an e 4 → oT (ao e n) T (32 * e + n % 32)
def rtH (ah : Nat → Nat → Nat → Bool) (aw : Nat → Nat → WC) (T : St) : Prop := ∀ e, e < 2 → ∀ n, n < 544 → T 1043 0 (544 * e + n) = b01 (ah e 0 n) ∧ T 1044 0 (544 * e + n) = b01 (ah e 1 n) ∧ (ah e 1 n = true → wT (aw e n) T (544 * e + n))
def rtR (an : Nat → Nat → Nat) (ar : Nat → List RM) (T : St) : Prop := ∀ e, e < 2 → ∀ s, s < 3 → an e (23 + s) = an e (19 + s) + ((ar e).filter (isS s)).length ∧ ∀ i q, ((ar e).filter (isS s))[i]? = some q → T 1053 0 (512 * (3 * e + s) + an e (19 + s) + i) = q.2.1 ∧ T 1054 0 (512 * (3 * e + s) + an e (19 + s) + i) = I q.2.2
def rest (A : MA) (T : St) : Prop := rtG (gN A) (gI A) T ∧ rtT (gT A) T ∧ rtP (aP A) T ∧ rtO (aN A) (aO A) T ∧ rtH (aH A) (aW A) T ∧ rtR (aN A) (aR A) T
def RT (A : MA) (T : St) : Prop := (famT tI (aI A) T ∧ famT tN (fun e i => I (aN A e i)) T ∧ famT tB (fun e i => b01 (aB A e i)) T) ∧ rest A T
theorem rtG_code {gn : Nat → Nat} {gi : Nat → Int32} {T T' : St} (h : rtG gn gi T) (e1 : T' 1001 = T 1001) (e2 : T' 1002 = T 1002) (e3 : T' 1003 = T 1003) (e4 : T' 1004 = T 1004) (e5 : T' 1012 = T 1012) : rtG gn gi T' := by
  unfold rtG at *
  rw [e1, e2, e3, e4, e5]
  exact h
theorem rtT_code {gt : Nat → List Int32} {T T' : St} (h : rtT gt T) (e1 : T' 1013 = T 1013) (e2 : T' 1014 = T 1014) (e3 : T' 1015 = T 1015) (e4 : T' 1016 = T 1016) : rtT gt T' := by
  unfold rtT at *
  rw [e1, e2, e3, e4]
  exact h
theorem rtP_code {ap : Nat → List Pkt} {T T' : St} (h : rtP ap T) (e1 : T' 1005 = T 1005) (e2 : T' 1006 = T 1006) : rtP ap T' := by
  unfold rtP at *
  rw [e1, e2]
  exact h
theorem oT_code {o : OW} {T T' : St} {p : Nat} (h : oT o T p) (e : ∀ x, 1034 ≤ x → x ≤ 1040 → T' x = T x) : oT o T' p := by
  unfold oT at *
  rw [e 1034 (by omega) (by omega), e 1035 (by omega) (by omega), e 1036 (by omega) (by omega), e 1037 (by omega) (by omega), e 1038 (by omega) (by omega), e 1039 (by omega) (by omega), e 1040 (by omega) (by omega)]
  exact h
theorem rtO_code {an : Nat → Nat → Nat} {ao : Nat → Nat → OW} {T T' : St} (h : rtO an ao T) (e : ∀ x, 1034 ≤ x → x ≤ 1040 → T' x = T x) : rtO an ao T' := fun q hq n h1 h2 => oT_code (h q hq n h1 h2) e
theorem rtH_code {ah : Nat → Nat → Nat → Bool} {aw : Nat → Nat → WC} {T T' : St} (h : rtH ah aw T) (e : ∀ x, 1043 ≤ x → x ≤ 1048 → T' x = T x) : rtH ah aw T' := by
  unfold rtH wT at *
  rw [e 1043 (by omega) (by omega), e 1044 (by omega) (by omega), e 1045 (by omega) (by omega), e 1046 (by omega) (by omega), e 1047 (by omega) (by omega), e 1048 (by omega) (by omega)]
  exact h
theorem rtR_code {an : Nat → Nat → Nat} {ar : Nat → List RM} {T T' : St} (h : rtR an ar T) (e1 : T' 1053 = T 1053) (e2 : T' 1054 = T 1054) : rtR an ar T' := by
  unfold rtR at *
  rw [e1, e2]
  exact h
theorem rtO_an {an an' : Nat → Nat → Nat} {ao : Nat → Nat → OW} {T : St} (h : rtO an ao T) (h1 : ∀ e, e < 2 → an' e 3 = an e 3 ∧ an' e 4 = an e 4) : rtO an' ao T := by
  intro e he n h2 h3
  rw [(h1 e he).1] at h2
  rw [(h1 e he).2] at h3
  exact h e he n h2 h3
theorem rtR_an {an an' : Nat → Nat → Nat} {ar : Nat → List RM} {T : St} (h : rtR an ar T) (h1 : ∀ e, e < 2 → ∀ s, s < 3 → an' e (19 + s) = an e (19 + s) ∧ an' e (23 + s) = an e (23 + s)) : rtR an' ar T := by
  intro e he s hs
  rw [(h1 e he s hs).1, (h1 e he s hs).2]
  exact h e he s hs
/-- the codes of the scalars -/
def scal (x : Nat) : Bool := (tI.any (fun q => Nat.beq q.1 x) || tN.any (fun q => Nat.beq q.1 x)) || tB.any (fun q => Nat.beq q.1 x)
theorem scal_I {q : Nat × Nat × Nat} (h : q ∈ tI) : scal q.1 = true := by
  unfold scal
  rw [List.any_eq_true.mpr ⟨q, h, Nat.beq_refl _⟩]
  rfl
theorem scal_N {q : Nat × Nat × Nat} (h : q ∈ tN) : scal q.1 = true := by
  unfold scal
  rw [List.any_eq_true.mpr ⟨q, h, Nat.beq_refl _⟩, Bool.or_true]
  rfl
theorem scal_B {q : Nat × Nat × Nat} (h : q ∈ tB) : scal q.1 = true := by
  unfold scal
  rw [List.any_eq_true.mpr ⟨q, h, Nat.beq_refl _⟩, Bool.or_true]
theorem scal_ne {x y : Nat} (hx : scal x = true) (hy : scal y = false) : y ≠ x := fun q => by
  subst q
  rw [hx] at hy
  cases hy
theorem rng_ns {x : Nat} (h : (1034 ≤ x ∧ x ≤ 1040) ∨ (1043 ≤ x ∧ x ≤ 1048)) : scal x = false := by
  have : x = 1034 ∨ x = 1035 ∨ x = 1036 ∨ x = 1037 ∨ x = 1038 ∨ x = 1039 ∨ x = 1040 ∨ x = 1043 ∨ x = 1044 ∨ x = 1045 ∨ x = 1046 ∨ x = 1047 ∨ x = 1048 := by omega
  rcases this with rfl | rfl | rfl | rfl | rfl | rfl | rfl | rfl | rfl | rfl | rfl | rfl | rfl <;> rfl
theorem rest_scal {A : MA} {T : St} (h : rest A T) {x i j : Nat} {v : Int32} (hx : scal x = true) : rest A (up3 T x i j v) := by
  obtain ⟨h1, h2, h3, h4, h5, h6⟩ := h
  have c : ∀ y, scal y = false → up3 T x i j v y = T y := fun y hy => up3_code (scal_ne hx hy)
  exact ⟨rtG_code h1 (c _ rfl) (c _ rfl) (c _ rfl) (c _ rfl) (c _ rfl), rtT_code h2 (c _ rfl) (c _ rfl) (c _ rfl) (c _ rfl), rtP_code h3 (c _ rfl) (c _ rfl), rtO_code h4 (fun y a b => c y (rng_ns (Or.inl ⟨a, b⟩))), rtH_code h5 (fun y a b => c y (rng_ns (Or.inr ⟨a, b⟩))), rtR_code h6 (c _ rfl) (c _ rfl)⟩
theorem tab_ne : (tI.all (fun q => tN.all (fun q' => !Nat.beq q.1 q'.1) && tB.all (fun q' => !Nat.beq q.1 q'.1)) && tN.all (fun q => tB.all (fun q' => !Nat.beq q.1 q'.1))) = true := by decide
theorem bne {a b : Nat} (h : (!Nat.beq a b) = true) : a ≠ b := fun q => by
  subst q
  rw [Nat.beq_refl] at h
  cases h
theorem tab_IN {q q' : Nat × Nat × Nat} (h : q ∈ tI) (h' : q' ∈ tN) : q.1 ≠ q'.1 := by
  have := tab_ne
  rw [Bool.and_eq_true] at this
  have := List.all_eq_true.mp this.1 q h
  rw [Bool.and_eq_true] at this
  exact bne (List.all_eq_true.mp this.1 q' h')
theorem tab_IB {q q' : Nat × Nat × Nat} (h : q ∈ tI) (h' : q' ∈ tB) : q.1 ≠ q'.1 := by
  have := tab_ne
  rw [Bool.and_eq_true] at this
  have := List.all_eq_true.mp this.1 q h
  rw [Bool.and_eq_true] at this
  exact bne (List.all_eq_true.mp this.2 q' h')
theorem tab_NB {q q' : Nat × Nat × Nat} (h : q ∈ tN) (h' : q' ∈ tB) : q.1 ≠ q'.1 := by
  have := tab_ne
  rw [Bool.and_eq_true] at this
  exact bne (List.all_eq_true.mp (List.all_eq_true.mp this.2 q h) q' h')
theorem up2_I {f : Nat → Nat → Nat} {e i v : Nat} : (fun a b => I (up2 f e i v a b)) = up2 (fun a b => I (f a b)) e i (I v) := by
  funext a b
  unfold up2
  split <;> rfl
theorem up2_b {f : Nat → Nat → Bool} {e i : Nat} {v : Bool} : (fun a b => b01 (up2 f e i v a b)) = up2 (fun a b => b01 (f a b)) e i (b01 v) := by
  funext a b
  unfold up2
  split <;> rfl
theorem RT_I {A : MA} {T : St} (h : RT A T) {q : Nat × Nat × Nat} (hq : q ∈ tI) {e k : Nat} (hk : k < q.2.1) {v : Int32} : RT (sI A e (q.2.2 + k) v) (up3 T q.1 0 (q.2.1 * e + k) v) := by
  obtain ⟨⟨h1, h2, h3⟩, h4⟩ := h
  exact ⟨⟨famT_set tI_ok h1 hq hk, famT_code h2 (fun q' hq' => up3_code (fun z => tab_IN hq hq' z.symm)), famT_code h3 (fun q' hq' => up3_code (fun z => tab_IB hq hq' z.symm))⟩, rest_scal h4 (scal_I hq)⟩
theorem RT_B {A : MA} {T : St} (h : RT A T) {q : Nat × Nat × Nat} (hq : q ∈ tB) {e k : Nat} (hk : k < q.2.1) {v : Bool} {w : Int32} (hw : w = b01 v) : RT (sB A e (q.2.2 + k) v) (up3 T q.1 0 (q.2.1 * e + k) w) := by
  subst hw
  obtain ⟨⟨h1, h2, h3⟩, h4⟩ := h
  refine ⟨⟨famT_code h1 (fun q' hq' => up3_code (fun z => tab_IB hq' hq z)), famT_code h2 (fun q' hq' => up3_code (fun z => tab_NB hq' hq z)), ?_⟩, rest_scal h4 (scal_B hq)⟩
  show famT tB (fun a b => b01 (up2 (aB A) e (q.2.2 + k) v a b)) _
  rw [up2_b]
  exact famT_set tB_ok h3 hq hk
/-- all of the naturals but those that others hang on -/
theorem RT_N {A : MA} {T : St} (h : RT A T) {q : Nat × Nat × Nat} (hq : q ∈ tN) {e k v : Nat} (hk : k < q.2.1) (hn : (q.2.2 + k ≠ 3 ∧ q.2.2 + k ≠ 4) ∧ (q.2.2 + k < 19 ∨ q.2.2 + k = 22)) {w : Int32} (hw : w = I v) : RT (sN A e (q.2.2 + k) v) (up3 T q.1 0 (q.2.1 * e + k) w) := by
  subst hw
  obtain ⟨⟨h1, h2, h3⟩, h4⟩ := h
  refine ⟨⟨famT_code h1 (fun q' hq' => up3_code (fun z => tab_IN hq' hq z)), ?_, famT_code h3 (fun q' hq' => up3_code (fun z => tab_NB hq hq' z.symm))⟩, ?_⟩
  · show famT tN (fun a b => I (up2 (aN A) e (q.2.2 + k) v a b)) _
    rw [up2_I]
    exact famT_set tN_ok h2 hq hk
  · obtain ⟨r1, r2, r3, r4, r5, r6⟩ := rest_scal (x := q.1) (i := 0) (j := q.2.1 * e + k) (v := I v) h4 (scal_N hq)
    exact ⟨r1, r2, r3, rtO_an r4 (fun e' _ => ⟨up2_ne2 (fun z => hn.1.1 z.symm), up2_ne2 (fun z => hn.1.2 z.symm)⟩), r5, rtR_an r6 (fun e' _ s hs => ⟨up2_ne2 (by omega), up2_ne2 (by omega)⟩)⟩
theorem rt_state {A : MA} {T : St} (h : RT A T) {e : Nat} (he : e < 2) : T 1008 0 e = aI A e 0 := by
  have := h.1.1 (1008, 1, 0) (by decide) e he 0 (by decide)
  rw [Nat.one_mul] at this
  exact this
theorem rs_state {A : MA} {T : St} (h : RT A T) {e : Nat} {v : Int32} : RT (sI A e 0 v) (up3 T 1008 0 e v) := by
  have := RT_I h (q := (1008, 1, 0)) (by decide) (e := e) (k := 0) (v := v) (by decide)
  rw [Nat.one_mul] at this
  exact this
theorem rt_own {A : MA} {T : St} (h : RT A T) {e : Nat} (he : e < 2) : T 1009 0 e = aI A e 1 := by
  have := h.1.1 (1009, 1, 1) (by decide) e he 0 (by decide)
  rw [Nat.one_mul] at this
  exact this
theorem rs_own {A : MA} {T : St} (h : RT A T) {e : Nat} {v : Int32} : RT (sI A e 1 v) (up3 T 1009 0 e v) := by
  have := RT_I h (q := (1009, 1, 1)) (by decide) (e := e) (k := 0) (v := v) (by decide)
  rw [Nat.one_mul] at this
  exact this
theorem rt_other {A : MA} {T : St} (h : RT A T) {e : Nat} (he : e < 2) : T 1010 0 e = aI A e 2 := by
  have := h.1.1 (1010, 1, 2) (by decide) e he 0 (by decide)
  rw [Nat.one_mul] at this
  exact this
theorem rs_other {A : MA} {T : St} (h : RT A T) {e : Nat} {v : Int32} : RT (sI A e 2 v) (up3 T 1010 0 e v) := by
  have := RT_I h (q := (1010, 1, 2)) (by decide) (e := e) (k := 0) (v := v) (by decide)
  rw [Nat.one_mul] at this
  exact this
theorem rt_report {A : MA} {T : St} (h : RT A T) {e : Nat} (he : e < 2) : T 1011 0 e = aI A e 3 := by
  have := h.1.1 (1011, 1, 3) (by decide) e he 0 (by decide)
  rw [Nat.one_mul] at this
  exact this
theorem rs_report {A : MA} {T : St} (h : RT A T) {e : Nat} {v : Int32} : RT (sI A e 3 v) (up3 T 1011 0 e v) := by
  have := RT_I h (q := (1011, 1, 3)) (by decide) (e := e) (k := 0) (v := v) (by decide)
  rw [Nat.one_mul] at this
  exact this
theorem rt_allErrors {A : MA} {T : St} (h : RT A T) {e : Nat} (he : e < 2) : T 1020 0 e = aI A e 4 := by
  have := h.1.1 (1020, 1, 4) (by decide) e he 0 (by decide)
  rw [Nat.one_mul] at this
  exact this
theorem rs_allErrors {A : MA} {T : St} (h : RT A T) {e : Nat} {v : Int32} : RT (sI A e 4 v) (up3 T 1020 0 e v) := by
  have := RT_I h (q := (1020, 1, 4)) (by decide) (e := e) (k := 0) (v := v) (by decide)
  rw [Nat.one_mul] at this
  exact this
theorem rt_window {A : MA} {T : St} (h : RT A T) {e : Nat} (he : e < 2) : T 1021 0 e = aI A e 5 := by
  have := h.1.1 (1021, 1, 5) (by decide) e he 0 (by decide)
  rw [Nat.one_mul] at this
  exact this
theorem rs_window {A : MA} {T : St} (h : RT A T) {e : Nat} {v : Int32} : RT (sI A e 5 v) (up3 T 1021 0 e v) := by
  have := RT_I h (q := (1021, 1, 5)) (by decide) (e := e) (k := 0) (v := v) (by decide)
  rw [Nat.one_mul] at this
  exact this
theorem rt_errors {A : MA} {T : St} (h : RT A T) {e k : Nat} (he : e < 2) (hk : k < 2) : T 1025 0 (2 * e + k) = aI A e (6 + k) := h.1.1 (1025, 2, 6) (by decide) e he k hk
theorem rs_errors {A : MA} {T : St} (h : RT A T) {e k : Nat} (hk : k < 2) {v : Int32} : RT (sI A e (6 + k) v) (up3 T 1025 0 (2 * e + k) v) := RT_I h (q := (1025, 2, 6)) (by decide) hk
theorem rt_beat {A : MA} {T : St} (h : RT A T) {e k : Nat} (he : e < 2) (hk : k < 2) : T 1029 0 (2 * e + k) = aI A e (8 + k) := h.1.1 (1029, 2, 8) (by decide) e he k hk
theorem rs_beat {A : MA} {T : St} (h : RT A T) {e k : Nat} (hk : k < 2) {v : Int32} : RT (sI A e (8 + k) v) (up3 T 1029 0 (2 * e + k) v) := RT_I h (q := (1029, 2, 8)) (by decide) hk
theorem rt_kept {A : MA} {T : St} (h : RT A T) {e : Nat} (he : e < 2) : T 1050 0 e = aI A e 10 := by
  have := h.1.1 (1050, 1, 10) (by decide) e he 0 (by decide)
  rw [Nat.one_mul] at this
  exact this
theorem rs_kept {A : MA} {T : St} (h : RT A T) {e : Nat} {v : Int32} : RT (sI A e 10 v) (up3 T 1050 0 e v) := by
  have := RT_I h (q := (1050, 1, 10)) (by decide) (e := e) (k := 0) (v := v) (by decide)
  rw [Nat.one_mul] at this
  exact this
theorem rt_tries {A : MA} {T : St} (h : RT A T) {e : Nat} (he : e < 2) : T 1017 0 e = I (aN A e 0) := by
  have := h.1.2.1 (1017, 1, 0) (by decide) e he 0 (by decide)
  rw [Nat.one_mul] at this
  exact this
theorem rs_tries {A : MA} {T : St} (h : RT A T) {e v : Nat} {w : Int32} (hw : w = I v) : RT (sN A e 0 v) (up3 T 1017 0 e w) := by
  have := RT_N h (q := (1017, 1, 0)) (by decide) (e := e) (k := 0) (v := v) (by decide) (by decide) hw
  rw [Nat.one_mul] at this
  exact this
theorem rt_due {A : MA} {T : St} (h : RT A T) {e : Nat} (he : e < 2) : T 1018 0 e = I (aN A e 1) := by
  have := h.1.2.1 (1018, 1, 1) (by decide) e he 0 (by decide)
  rw [Nat.one_mul] at this
  exact this
theorem rs_due {A : MA} {T : St} (h : RT A T) {e v : Nat} {w : Int32} (hw : w = I v) : RT (sN A e 1 v) (up3 T 1018 0 e w) := by
  have := RT_N h (q := (1018, 1, 1)) (by decide) (e := e) (k := 0) (v := v) (by decide) (by decide) hw
  rw [Nat.one_mul] at this
  exact this
theorem rt_primary {A : MA} {T : St} (h : RT A T) {e : Nat} (he : e < 2) : T 1019 0 e = I (aN A e 2) := by
  have := h.1.2.1 (1019, 1, 2) (by decide) e he 0 (by decide)
  rw [Nat.one_mul] at this
  exact this
theorem rs_primary {A : MA} {T : St} (h : RT A T) {e v : Nat} {w : Int32} (hw : w = I v) : RT (sN A e 2 v) (up3 T 1019 0 e w) := by
  have := RT_N h (q := (1019, 1, 2)) (by decide) (e := e) (k := 0) (v := v) (by decide) (by decide) hw
  rw [Nat.one_mul] at this
  exact this
theorem rt_gone {A : MA} {T : St} (h : RT A T) {e : Nat} (he : e < 2) : T 1031 0 e = I (aN A e 3) := by
  have := h.1.2.1 (1031, 1, 3) (by decide) e he 0 (by decide)
  rw [Nat.one_mul] at this
  exact this
theorem rt_given {A : MA} {T : St} (h : RT A T) {e : Nat} (he : e < 2) : T 1032 0 e = I (aN A e 4) := by
  have := h.1.2.1 (1032, 1, 4) (by decide) e he 0 (by decide)
  rw [Nat.one_mul] at this
  exact this
theorem rt_latest {A : MA} {T : St} (h : RT A T) {e : Nat} (he : e < 2) : T 1042 0 e = I (aN A e 5) := by
  have := h.1.2.1 (1042, 1, 5) (by decide) e he 0 (by decide)
  rw [Nat.one_mul] at this
  exact this
theorem rs_latest {A : MA} {T : St} (h : RT A T) {e v : Nat} {w : Int32} (hw : w = I v) : RT (sN A e 5 v) (up3 T 1042 0 e w) := by
  have := RT_N h (q := (1042, 1, 5)) (by decide) (e := e) (k := 0) (v := v) (by decide) (by decide) hw
  rw [Nat.one_mul] at this
  exact this
theorem rt_rate {A : MA} {T : St} (h : RT A T) {e k : Nat} (he : e < 2) (hk : k < 2) : T 1023 0 (2 * e + k) = I (aN A e (7 + k)) := h.1.2.1 (1023, 2, 7) (by decide) e he k hk
theorem rs_rate {A : MA} {T : St} (h : RT A T) {e k v : Nat} (hk : k < 2) {w : Int32} (hw : w = I v) : RT (sN A e (7 + k) v) (up3 T 1023 0 (2 * e + k) w) := RT_N h (q := (1023, 2, 7)) (by decide) hk (by dsimp only; omega) hw
theorem rt_wait {A : MA} {T : St} (h : RT A T) {e k : Nat} (he : e < 2) (hk : k < 2) : T 1024 0 (2 * e + k) = I (aN A e (9 + k)) := h.1.2.1 (1024, 2, 9) (by decide) e he k hk
theorem rs_wait {A : MA} {T : St} (h : RT A T) {e k v : Nat} (hk : k < 2) {w : Int32} (hw : w = I v) : RT (sN A e (9 + k) v) (up3 T 1024 0 (2 * e + k) w) := RT_N h (q := (1024, 2, 9)) (by decide) hk (by dsimp only; omega) hw
theorem rt_timer {A : MA} {T : St} (h : RT A T) {e k : Nat} (he : e < 2) (hk : k < 2) : T 1027 0 (2 * e + k) = I (aN A e (11 + k)) := h.1.2.1 (1027, 2, 11) (by decide) e he k hk
theorem rs_timer {A : MA} {T : St} (h : RT A T) {e k v : Nat} (hk : k < 2) {w : Int32} (hw : w = I v) : RT (sN A e (11 + k) v) (up3 T 1027 0 (2 * e + k) w) := RT_N h (q := (1027, 2, 11)) (by decide) hk (by dsimp only; omega) hw
theorem rt_orders {A : MA} {T : St} (h : RT A T) {e k : Nat} (he : e < 2) (hk : k < 3) : T 1033 0 (3 * e + k) = I (aN A e (13 + k)) := h.1.2.1 (1033, 3, 13) (by decide) e he k hk
theorem rs_orders {A : MA} {T : St} (h : RT A T) {e k v : Nat} (hk : k < 3) {w : Int32} (hw : w = I v) : RT (sN A e (13 + k) v) (up3 T 1033 0 (3 * e + k) w) := RT_N h (q := (1033, 3, 13)) (by decide) hk (by dsimp only; omega) hw
theorem rt_nextOrder {A : MA} {T : St} (h : RT A T) {e k : Nat} (he : e < 2) (hk : k < 3) : T 1049 0 (3 * e + k) = I (aN A e (16 + k)) := h.1.2.1 (1049, 3, 16) (by decide) e he k hk
theorem rs_nextOrder {A : MA} {T : St} (h : RT A T) {e k v : Nat} (hk : k < 3) {w : Int32} (hw : w = I v) : RT (sN A e (16 + k) v) (up3 T 1049 0 (3 * e + k) w) := RT_N h (q := (1049, 3, 16)) (by decide) hk (by dsimp only; omega) hw
theorem rt_firstReady {A : MA} {T : St} (h : RT A T) {e k : Nat} (he : e < 2) (hk : k < 3) : T 1052 0 (3 * e + k) = I (aN A e (19 + k)) := h.1.2.1 (1052, 3, 19) (by decide) e he k hk
theorem rt_sackOf {A : MA} {T : St} (h : RT A T) {e : Nat} (he : e < 2) : T 1041 0 e = I (aN A e 22) := by
  have := h.1.2.1 (1041, 1, 22) (by decide) e he 0 (by decide)
  rw [Nat.one_mul] at this
  exact this
theorem rs_sackOf {A : MA} {T : St} (h : RT A T) {e v : Nat} {w : Int32} (hw : w = I v) : RT (sN A e 22 v) (up3 T 1041 0 e w) := by
  have := RT_N h (q := (1041, 1, 22)) (by decide) (e := e) (k := 0) (v := v) (by decide) (by decide) hw
  rw [Nat.one_mul] at this
  exact this
theorem rt_readies {A : MA} {T : St} (h : RT A T) {e k : Nat} (he : e < 2) (hk : k < 3) : T 1051 0 (3 * e + k) = I (aN A e (23 + k)) := h.1.2.1 (1051, 3, 23) (by decide) e he k hk
theorem rt_active {A : MA} {T : St} (h : RT A T) {e k : Nat} (he : e < 2) (hk : k < 2) : T 1022 0 (2 * e + k) = b01 (aB A e (0 + k)) := h.1.2.2 (1022, 2, 0) (by decide) e he k hk
theorem rs_active {A : MA} {T : St} (h : RT A T) {e k : Nat} (hk : k < 2) {v : Bool} {w : Int32} (hw : w = b01 v) : RT (sB A e (0 + k) v) (up3 T 1022 0 (2 * e + k) w) := RT_B h (q := (1022, 2, 0)) (by decide) hk hw
theorem rt_runs {A : MA} {T : St} (h : RT A T) {e k : Nat} (he : e < 2) (hk : k < 2) : T 1026 0 (2 * e + k) = b01 (aB A e (2 + k)) := h.1.2.2 (1026, 2, 2) (by decide) e he k hk
theorem rs_runs {A : MA} {T : St} (h : RT A T) {e k : Nat} (hk : k < 2) {v : Bool} {w : Int32} (hw : w = b01 v) : RT (sB A e (2 + k) v) (up3 T 1026 0 (2 * e + k) w) := RT_B h (q := (1026, 2, 2)) (by decide) hk hw
theorem rt_beating {A : MA} {T : St} (h : RT A T) {e k : Nat} (he : e < 2) (hk : k < 2) : T 1028 0 (2 * e + k) = b01 (aB A e (4 + k)) := h.1.2.2 (1028, 2, 4) (by decide) e he k hk
theorem rs_beating {A : MA} {T : St} (h : RT A T) {e k : Nat} (hk : k < 2) {v : Bool} {w : Int32} (hw : w = b01 v) : RT (sB A e (4 + k) v) (up3 T 1028 0 (2 * e + k) w) := RT_B h (q := (1028, 2, 4)) (by decide) hk hw
