/-! Words to send. -/
theorem RT_pkq {A : MA} {T : St} {r : Nat} {q q' : Pkt} (hq : q'.1 = q.1) (h : RT (m_post A r q) T) : RT (m_post A r q') T := by
  unfold m_post at *
  by_cases hc : (aP A r).length = 8
  · rw [if_pos hc] at *
    exact h
  · rw [if_neg hc] at *
    have h0 : RT (uP (uP A (up1 (aP A) r (aP A r ++ [q]))) (up1 (aP A) r (aP A r ++ [q']))) T := by
      refine RT_P h (fun _ _ _ => rfl) (fun r' hr' => ?_)
      have h1 := h.2.2.2.1 r' hr'
      by_cases hr : r' = r
      · subst hr
        rw [up1_eq]
        have e0 : aP (uP A (up1 (aP A) r' (aP A r' ++ [q]))) r' = aP A r' ++ [q] := up1_eq
        rw [e0] at h1
        refine ⟨by rw [h1.1, List.length_append, List.length_append]; rfl, fun i p hp j hj => ?_⟩
        by_cases hi : i < (aP A r').length
        · rw [List.getElem?_append_left hi] at hp
          exact h1.2 i p (by rw [List.getElem?_append_left hi]; exact hp) j hj
        · rw [List.getElem?_append_right (by omega)] at hp
          have : i - (aP A r').length = 0 := by
            by_cases z : i - (aP A r').length = 0
            · exact z
            · rw [List.getElem?_eq_none (by simp; omega)] at hp
              cases hp
          rw [this] at hp
          cases hp
          rw [hq]
          exact h1.2 i q (by rw [List.getElem?_append_right (by omega), this]; rfl) j hj
      · rw [up1_ne hr]
        have e0 : aP (uP A (up1 (aP A) r (aP A r ++ [q]))) r' = aP A r' := up1_ne hr
        rw [e0] at h1
        exact h1
    exact h0
def bO (A : MA) (e : Nat) : Prop := aN A e 2 < 2 ∧ aN A e 3 ≤ aN A e 4 ∧ aN A e 4 ≤ aN A e 3 + 24 ∧ aN A e 4 < 4000 ∧ (∀ n, oPa A e n < 2) ∧ (∀ n, oSk A e n ≤ 2) ∧ (∀ p, p < 2 → aN A e (7 + p) ≤ 8 ∧ aN A e (9 + p) ≤ 24) ∧ gN A 0 < 4000
theorem T_countG {A : MA} {T : St} (h : RT A T) {e : Nat} (he : e < 2) (hb : bO A e) {k p : Int32} {f : Nat → Bool} (hf : ∀ n, f n = true ↔ oSt A e n = k ∧ (p < 0 ∨ I (oPa A e n) = p)) : sat (f_M_count 0 (I e) k p T) (fun r => r = I (cntN f (aN A e 3) (m_len A e))) := by
  obtain ⟨b1, b2, b3, b4, b5, b6, b7, b8⟩ := hb
  unfold f_M_count f_M_count_13
  simp (disch := omega) only [I_lit, I_ix, inbT, if_true, rt_gone h he, I_add]
  refine sat_upP (fun i x => x = (I (cntN f (aN A e 3) i), I (aN A e 3 + 1 + i))) (m_len A e) (fun i x hi hx => ?_) (fun x hx => ?_) rfl (by unfold m_len; omega)
  · subst hx
    unfold m_len at hi
    obtain ⟨o1, o2, o3, o4, o5, o6, o7⟩ := rt_o h he (n := aN A e 3 + 1 + i) (by omega) (by omega)
    unfold f_M_count_13_b f_M_count_69 f_M_count_62 f_M_count_71
    simp (disch := omega) only [I_lit, I_ix, inbT, if_true, rt_given h he, I_lt, I_add, I_mul, I_rem, o1, o6]
    rw [if_neg (by omega)]
    have hc : cntN f (aN A e 3) (i + 1) = cntN f (aN A e 3) i + (if f (aN A e 3 + 1 + i) = true then 1 else 0) := by
      rw [cntN, show aN A e 3 + 1 + i = aN A e 3 + i + 1 by omega]
    by_cases h1 : oSt A e (aN A e 3 + 1 + i) = k
    · rw [if_pos h1]
      by_cases h2 : p < I 0
      · rw [if_pos h2]
        rw [if_pos ((hf _).mpr ⟨h1, Or.inl h2⟩)] at hc
        exact .some (by rw [hc]; rfl)
      · rw [if_neg h2]
        by_cases h3 : I (oPa A e (aN A e 3 + 1 + i)) = p
        · rw [if_pos h3]
          rw [if_pos ((hf _).mpr ⟨h1, Or.inr h3⟩)] at hc
          exact .some (by rw [hc]; rfl)
        · rw [if_neg h3]
          rw [if_neg (fun z => ((hf _).mp z).2.elim h2 h3)] at hc
          exact .some (by rw [hc]; rfl)
    · rw [if_neg h1]
      rw [if_neg (fun z => h1 ((hf _).mp z).1)] at hc
      exact .some (by rw [hc]; rfl)
  · subst hx
    unfold f_M_count_13_b
    simp (disch := omega) only [I_lit, I_ix, inbT, if_true, rt_given h he]
    unfold m_len
    simp (disch := omega) only [I_lt]
    rw [if_pos (by omega)]
    exact .exW (.some rfl)
theorem cntN_le (f : Nat → Bool) (a : Nat) : ∀ k, cntN f a k ≤ k
  | 0 => Nat.le_refl _
  | k + 1 => by
    have := cntN_le f a k
    rw [cntN]
    split <;> omega
theorem T_cSt {A : MA} {T : St} (h : RT A T) {e : Nat} (he : e < 2) (hb : bO A e) {k : Int32} : f_M_count 0 (I e) k (-1) T = some (I (cSt A e k)) := by
  obtain ⟨x, h1, rfl⟩ := T_countG h he hb (k := k) (p := -1) (f := fun n => decide (oSt A e n = k)) (fun n => ⟨fun z => ⟨of_decide_eq_true z, Or.inl (by decide)⟩, fun z => decide_eq_true z.1⟩)
  exact h1
theorem T_cOut {A : MA} {T : St} (h : RT A T) {e p : Nat} (he : e < 2) (hp : p < 2) (hb : bO A e) : f_M_count 0 (I e) 2 (I p) T = some (I (cOut A e p)) := by
  have hpa := hb.2.2.2.2.1
  obtain ⟨x, h1, rfl⟩ := T_countG h he hb (k := 2) (p := I p) (f := fun n => decide (oSt A e n = 2) && Nat.beq (oPa A e n) p) (fun n => by
    have := hpa n
    have h0 : ¬ I p < 0 := fun z => by
      have := (I_lt (b := 0) (by omega) (by decide)).mp z
      omega
    rw [Bool.and_eq_true, decide_eq_true_iff, Nat.beq_eq]
    constructor
    · intro z
      exact ⟨z.1, Or.inr (by rw [z.2])⟩
    · intro z
      exact ⟨z.1, z.2.elim (fun q => absurd q h0) (fun q => (I_eq (by omega) (by omega)).mp q)⟩)
  exact h1
theorem cOut_le {A : MA} {e p : Nat} (hb : bO A e) : cOut A e p ≤ 24 := by
  have := cntN_le (fun n => decide (oSt A e n = 2) && Nat.beq (oPa A e n) p) (aN A e 3) (m_len A e)
  obtain ⟨b1, b2, b3, _⟩ := hb
  unfold cOut
  unfold m_len at *
  omega
theorem cSt_le {A : MA} {e : Nat} {k : Int32} (hb : bO A e) : cSt A e k ≤ 24 := by
  have := cntN_le (fun n => decide (oSt A e n = k)) (aN A e 3) (m_len A e)
  obtain ⟨b1, b2, b3, _⟩ := hb
  unfold cSt
  unfold m_len at *
  omega
