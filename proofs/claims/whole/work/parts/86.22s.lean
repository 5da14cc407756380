/-- a first word's message ends within four words -/
def MP (A : MA) (e : Nat) : Prop := ∀ n, aH A e 1 n = true → (aW A e n).2.2.2.1 = true → ∃ j, j < 4 ∧ (aH A e 1 (n + j) = true → (aW A e (n + j)).2.2.2.2.1 = true)
theorem whlN_ge {A : MA} {e n d : Nat} (hd : aH A e 1 (n + d) = true → (aW A e (n + d)).2.2.2.2.1 = true) : ∀ j i, i ≤ d → d < i + j → ∀ k, whlN A e n (j + k) i = whlN A e n j i
  | 0, i => fun _ h2 => by omega
  | j + 1, i => fun h1 h2 k => by
    rw [show j + 1 + k = (j + k) + 1 by omega, whlN, whlN]
    by_cases hh : aH A e 1 (n + i) = true
    · rw [if_pos hh, if_pos hh]
      by_cases hl : (aW A e (n + i)).2.2.2.2.1 = true
      · rw [if_pos hl, if_pos hl]
      · rw [if_neg hl, if_neg hl]
        have : i ≠ d := fun z => by
          subst z
          exact hl (hd hh)
        exact whlN_ge hd j (i + 1) (by omega) (by omega) k
    · rw [if_neg hh, if_neg hh]
theorem whl_4 {A : MA} {e n : Nat} (hM : MP A e) (h1 : aH A e 1 n = true) (h2 : (aW A e n).2.2.2.1 = true) (hb : ∀ m, aH A e 1 m = true → m ≤ aN A e 5 + 16) : whlN A e n 4 0 = m_whl A e n := by
  obtain ⟨d, hd, hl⟩ := hM n h1 h2
  have hn := hb n h1
  unfold m_whl
  by_cases hk : 4 ≤ aN A e 5 + 17 - n
  · have := whlN_ge hl 4 0 (by omega) (by omega) (aN A e 5 + 17 - n - 4)
    rw [show 4 + (aN A e 5 + 17 - n - 4) = aN A e 5 + 17 - n by omega] at this
    exact this.symm
  · -- beyond the last number nothing is held
    have key : ∀ k i, n + i + k ≥ aN A e 5 + 17 → ∀ j, whlN A e n (k + j) i = whlN A e n k i := by
      intro k
      induction k with
      | zero =>
        intro i hi j
        cases j with
        | zero => rfl
        | succ j =>
          rw [Nat.zero_add, whlN, whlN, if_neg (fun z => by have := hb _ z; omega)]
      | succ k ih =>
        intro i hi j
        rw [show k + 1 + j = (k + j) + 1 by omega, whlN, whlN, ih (i + 1) (by omega) j]
    have := key (aN A e 5 + 17 - n) 0 (by omega) (4 - (aN A e 5 + 17 - n))
    rw [show aN A e 5 + 17 - n + (4 - (aN A e 5 + 17 - n)) = 4 by omega] at this
    exact this
theorem S_whl {A : MA} {e n : Nat} {S : St} (h : RSe A e S) (hl : aN A e 5 ≤ 600) (h1 : 1 ≤ n) (h2 : aN A e 5 < n + 4) (h3 : n ≤ aN A e 5 + 16) (hM : MP A e) (hb : ∀ m, aH A e 1 m = true → m ≤ aN A e 5 + 16) : sat (f_Inbox_wholeLength e (I n) S) (fun r => r = if aH A e 1 n = true ∧ (aW A e n).2.2.2.1 = true then I (m_whl A e n) else 0) := by
  obtain ⟨q1, q2, q3, q4⟩ := h.2.1.2.1
  obtain ⟨s1, s2⟩ := slot_in (n := n) (by omega)
  obtain ⟨r1, r2⟩ := q1 n h1 h2 h3
  -- the loop, where this word is held
  have loop : aH A e 1 n = true → sat (f_Inbox_wholeLength_19 e (I n) S 0) (fun r => r = I (whlN A e n 4 0)) := by
    intro hh
    unfold f_Inbox_wholeLength_19
    refine sat_iter (fun j x => ∃ i, x = I i ∧ i + j = 4 ∧ whlN A e n j i = whlN A e n 4 0) (P := fun r => r = I (whlN A e n 4 0)) ?_ (i := 4) (by decide) ⟨0, rfl, rfl, rfl⟩
    rintro j x ⟨i, rfl, hj, hw⟩
    unfold f_Inbox_wholeLength_19_b f_Inbox_wholeLength_55
    cases j with
    | zero =>
      rw [if_neg (show ¬ I i < 4 from fun z => by have := (I_lt (b := 4) (by omega) (by decide)).mp z; omega)]
      rw [whlN] at hw
      exact .exW (.some (by rw [← hw]; rfl))
    | succ j =>
      obtain ⟨t1, t2⟩ := slot_in (n := n + i) (by omega)
      rw [if_pos (show I i < 4 from (I_lt (b := 4) (by omega) (by decide)).mpr (by omega)), I_add, t1, t2, if_pos rfl, if_pos rfl, if_pos rfl]
      rw [whlN] at hw
      by_cases hin : n + i ≤ aN A e 5 + 16
      · obtain ⟨u1, u2⟩ := q1 (n + i) (by omega) (by omega) hin
        have u1' : S cInbox_unready e ((n + i) % 32) = b01 (aH A e 1 (n + i)) := u1
        rw [u1', b01_nz]
        cases hh2 : aH A e 1 (n + i) with
        | false =>
          rw [if_pos (by decide)]
          rw [if_neg (by rw [hh2]; decide)] at hw
          exact .exW (.some (by rw [← hw]; rfl))
        | true =>
          obtain ⟨⟨v1, v2, v3, v4⟩, v5, v6, v7⟩ := u2 hh2
          have v1' : S cWord_number (32 * e + (n + i) % 32 + 84) 0 = I (n + i) := v1
          have v6' : S cWord_last (32 * e + (n + i) % 32 + 84) 0 = b01 (aW A e (n + i)).2.2.2.2.1 := v6
          rw [if_neg (by decide), v1', if_pos rfl, v6', b01_nz]
          rw [if_pos hh2] at hw
          cases hla : (aW A e (n + i)).2.2.2.2.1 with
          | false =>
            rw [if_pos (by decide)]
            rw [if_neg (by rw [hla]; decide)] at hw
            exact .some ⟨j, by omega, i + 1, I_add i 1, by omega, hw⟩
          | true =>
            rw [if_neg (by decide)]
            rw [if_pos hla] at hw
            exact .exW (.some (by rw [← hw]; exact I_add i 1))
      · rw [if_neg (fun z => by have := hb _ z; omega)] at hw
        by_cases hz : S 18 e ((n + i) % 32) = 0
        · have hz' : S cInbox_unready e ((n + i) % 32) = 0 := hz
          rw [hz', if_pos (by decide)]
          exact .exW (.some (by rw [← hw]; rfl))
        · obtain ⟨m, y1, y2, y3, y4, y5⟩ := q2 ((n + i) % 32) (by omega) hz
          obtain ⟨u1, u2⟩ := q1 m y1 y2 y3
          rw [y4] at u1 u2
          have u1' : S cInbox_unready e ((n + i) % 32) = b01 (aH A e 1 m) := u1
          have v1' : S cWord_number (32 * e + (n + i) % 32 + 84) 0 = I m := (u2 y5).1.1
          rw [u1', b01_nz, y5, if_neg (by decide), v1', if_neg (fun z => by have := (I_eq (by omega) (by omega)).mp z; omega)]
          exact .exW (.some (by rw [← hw]; rfl))
  unfold f_Inbox_wholeLength
  rw [s1, s2, if_pos rfl]
  cases hh : aH A e 1 n with
  | true =>
    obtain ⟨⟨v1, v2, v3, v4⟩, v5, v6, v7⟩ := r2 hh
    have v5' : S cWord_first (32 * e + n % 32 + 84) 0 = b01 (aW A e n).2.2.2.1 := v5
    rw [v5', b01_nz]
    cases hfi : (aW A e n).2.2.2.1 with
    | false =>
      rw [if_pos (by decide), if_neg (fun z => absurd z.2 (by decide))]
      exact .some rfl
    | true =>
      rw [if_neg (by decide), if_pos ⟨rfl, rfl⟩, ← whl_4 hM hh hfi hb]
      exact loop hh
  | false =>
    simp only [Bool.false_eq_true, false_and, if_false]
    have u1' : S cInbox_unready e (n % 32) = 0 := by rw [hh] at r1; exact r1
    split
    · exact .some rfl
    · unfold f_Inbox_wholeLength_19
      refine sat_upP (fun i x => x = I i) 0 (fun i x hi hx => absurd hi (by omega)) (fun x hx => ?_) rfl (by decide)
      subst hx
      unfold f_Inbox_wholeLength_19_b f_Inbox_wholeLength_55
      rw [if_pos (by decide), I_add, Nat.add_zero, s1, s2, if_pos rfl, u1', if_pos (by decide)]
      exact .exW (.some rfl)
theorem S_may2 {A : MA} {e n : Nat} {S : St} (h : RSe A e S) (h1 : 1 ≤ n) (h2 : aN A e 5 < n + 4) (h3 : n ≤ aN A e 5 + 16) (hh : aH A e 1 n = true) (hs : (aW A e n).2.1 < 3) (ho : (aW A e n).2.2.1 < 4000) (hno : aN A e (16 + (aW A e n).2.1) < 4000) : f_Inbox_mayBeReady e (32 * e + n % 32 + 84) S = some (if (aW A e n).2.2.2.2.2 = true ∨ (aW A e n).2.2.1 = aN A e (16 + (aW A e n).2.1) then 1 else 0) := by
  obtain ⟨q1, q2, q3, q4⟩ := h.2.1.2.1
  obtain ⟨⟨v1, v2, v3, v4⟩, v5, v6, v7⟩ := (q1 n h1 h2 h3).2 hh
  have v3' : S cWord_stream (32 * e + n % 32 + 84) 0 = I (aW A e n).2.1 := v3
  have v4' : S cWord_order (32 * e + n % 32 + 84) 0 = I (aW A e n).2.2.1 := v4
  have v7' : S cWord_unordered (32 * e + n % 32 + 84) 0 = b01 (aW A e n).2.2.2.2.2 := v7
  have hnx : S cInbox_nextOrders e (aW A e n).2.1 = I (aN A e (16 + (aW A e n).2.1)) := sr_nextO h hs
  unfold f_Inbox_mayBeReady f_Inbox_mayBeReady_23
  rw [v3', v4', v7', b01_nz, inbT hs (by decide), I_ix (by omega), hnx, if_pos rfl]
  cases hl : (aW A e n).2.2.2.2.2 with
  | true => rw [if_neg (by decide), if_pos (Or.inl rfl)]
  | false =>
    rw [if_pos (by decide)]
    by_cases hz : (aW A e n).2.2.1 = aN A e (16 + (aW A e n).2.1)
    · rw [if_pos (by rw [hz]), if_pos (Or.inr hz)]
    · rw [if_neg (fun z => hz ((I_eq (by omega) (by omega)).mp z)), if_neg (fun z => z.elim (fun z => by cases z) hz)]
