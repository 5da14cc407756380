/-- a loop of k turns, something known at each -/
theorem sat_upP {σ ρ : Type} {body : σ → Option (σ ⊕ ρ)} (Q : Nat → σ → Prop) (k : Nat) {P : ρ → Prop} (step : ∀ i s, i < k → Q i s → sat (body s) (Sum.elim (Q (i + 1)) (fun _ => False))) (done : ∀ s, Q k s → sat (body s) (Sum.elim (fun _ => False) P)) {s : σ} (h0 : Q 0 s) {n : Nat} (hn : k < n) : sat (iter body n s) P := by
  refine sat_iter (fun j x => ∃ i, i ≤ k ∧ j = k - i ∧ Q i x) (P := P) ?_ (i := k) hn ⟨0, by omega, by omega, h0⟩
  rintro j x ⟨i, hi, rfl, hQ⟩
  by_cases h : i = k
  · subst h
    exact (done x hQ).imp (fun a ha => by
      cases a with
      | inl _ => exact ha.elim
      | inr r => exact ha)
  · exact (step i x (by omega) hQ).imp (fun a ha => by
      cases a with
      | inl s' => exact ⟨k - (i + 1), by omega, i + 1, by omega, rfl, ha⟩
      | inr r => exact ha.elim)
/-! A connection begins and ends: everything of an end is as at first, but what is ready. -/
theorem RT_gg {A : MA} {T : St} (h : RT A T) {e : Nat} {a b : Nat} {v w : Int32} (hv : v = I a) (hw : w = I b) (hO : rtO (aN (sN (sN A e 3 a) e 4 b)) (aO A) T) : RT (sN (sN A e 3 a) e 4 b) (up3 (up3 T 1031 0 e v) 1032 0 e w) := by
  subst hv hw
  obtain ⟨⟨h1, h2, h3⟩, h4⟩ := h
  have q1 : ((1031, 1, 3) : Nat × Nat × Nat) ∈ tN := by decide
  have q2 : ((1032, 1, 4) : Nat × Nat × Nat) ∈ tN := by decide
  refine ⟨⟨famT_code (famT_code h1 (fun q hq => up3_code (fun z => tab_IN hq q1 z))) (fun q hq => up3_code (fun z => tab_IN hq q2 z)), ?_, famT_code (famT_code h3 (fun q hq => up3_code (fun z => tab_NB q1 hq z.symm))) (fun q hq => up3_code (fun z => tab_NB q2 hq z.symm))⟩, ?_⟩
  · show famT tN (fun x i => I (up2 (up2 (aN A) e 3 a) e 4 b x i)) _
    rw [up2_I, up2_I]
    have := famT_set tN_ok (famT_set tN_ok h2 q1 (e := e) (k := 0) (v := I a) (by decide)) q2 (e := e) (k := 0) (v := I b) (by decide)
    simp only [Nat.one_mul, Nat.add_zero] at this
    exact this
  · obtain ⟨r1, r2, r3, r4, r5, r6⟩ := rest_scal (x := 1032) (i := 0) (j := e) (v := I b) (rest_scal (x := 1031) (i := 0) (j := e) (v := I a) h4 rfl) rfl
    exact ⟨r1, r2, r3, rtO_code (rtO_code hO (fun x a b => up3_code (by omega))) (fun x a b => up3_code (by omega)), r5, rtR_an r6 (fun e' _ s hs => ⟨by show up2 (up2 (aN A) e 3 a) e 4 b e' (19 + s) = _; rw [up2_ne2 (by omega), up2_ne2 (by omega)], by show up2 (up2 (aN A) e 3 a) e 4 b e' (23 + s) = _; rw [up2_ne2 (by omega), up2_ne2 (by omega)]⟩)⟩
def eH (A : MA) (e k : Nat) : MA := uW (uH A (fun x i n => if x = e ∧ i < 2 ∧ n < k then false else aH A x i n)) (aW A)
def eO (A : MA) (e : Nat) : Nat → MA
  | 0 => A
  | k + 1 => sN (sN (eO A e k) e (13 + k) 0) e (16 + k) 0
def eP (A : MA) (e : Nat) : Nat → MA
  | 0 => A
  | p + 1 => sB (sB (sI (sN (sN (sB (eP A e p) e (0 + p) true) e (7 + p) 2) e (9 + p) 3) e (6 + p) 0) e (2 + p) false) e (4 + p) false
theorem sumR_app (a b : List RM) : sumR (a ++ b) = sumR a + sumR b := by
  induction a with
  | nil => rw [List.nil_append]; show _ = 0 + _; rw [Int32.zero_add]
  | cons q l ih => rw [List.cons_append]; show I q.2.2 + sumR (l ++ b) = (I q.2.2 + sumR l) + _; rw [ih, Int32.add_assoc]
theorem sumR_three (L : List RM) (h : ∀ q ∈ L, q.1 < 3) : sumR L = sumR (L.filter (isS 0)) + sumR (L.filter (isS 1)) + sumR (L.filter (isS 2)) := by
  induction L with
  | nil => rfl
  | cons q l ih =>
    have ih := ih (fun x hx => h x (List.mem_cons_of_mem _ hx))
    have hq := h q List.mem_cons_self
    have : q.1 = 0 ∨ q.1 = 1 ∨ q.1 = 2 := by omega
    show I q.2.2 + sumR l = _
    rw [ih]
    rcases this with h0 | h0 | h0
    · have e0 : isS 0 q = true := by unfold isS; rw [h0]; rfl
      have e1 : isS 1 q = false := by unfold isS; rw [h0]; rfl
      have e2 : isS 2 q = false := by unfold isS; rw [h0]; rfl
      rw [List.filter_cons_of_pos e0, List.filter_cons_of_neg (by rw [e1]; exact Bool.false_ne_true), List.filter_cons_of_neg (by rw [e2]; exact Bool.false_ne_true)]
      simp only [sumR]
      ac_rfl
    · have e0 : isS 0 q = false := by unfold isS; rw [h0]; rfl
      have e1 : isS 1 q = true := by unfold isS; rw [h0]; rfl
      have e2 : isS 2 q = false := by unfold isS; rw [h0]; rfl
      rw [List.filter_cons_of_neg (by rw [e0]; exact Bool.false_ne_true), List.filter_cons_of_pos e1, List.filter_cons_of_neg (by rw [e2]; exact Bool.false_ne_true)]
      simp only [sumR]
      ac_rfl
    · have e0 : isS 0 q = false := by unfold isS; rw [h0]; rfl
      have e1 : isS 1 q = false := by unfold isS; rw [h0]; rfl
      have e2 : isS 2 q = true := by unfold isS; rw [h0]; rfl
      rw [List.filter_cons_of_neg (by rw [e0]; exact Bool.false_ne_true), List.filter_cons_of_neg (by rw [e1]; exact Bool.false_ne_true), List.filter_cons_of_pos e2]
      simp only [sumR]
      ac_rfl
