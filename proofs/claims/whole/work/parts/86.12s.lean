/-! What the class has to send. -/
theorem xor_nn {a b : Int32} (ha : ¬ a.toInt < 0) (hb : ¬ b.toInt < 0) : ¬ a ^^^ b < 0 := by
  rw [Int32.lt_iff_toBitVec_slt, Int32.toBitVec_xor]
  have z : (0 : Int32).toBitVec = 0#32 := rfl
  rw [z, BitVec.slt_zero_eq_msb, BitVec.msb_xor, BitVec.msb_eq_toInt, BitVec.msb_eq_toInt, Int32.toInt_toBitVec, Int32.toInt_toBitVec, decide_eq_false ha, decide_eq_false hb]
  decide
theorem fmod24 {n : Nat} (hn : n < 2 ^ 31) : f_Math_floorMod (I n) 24 = some (I (n % 24)) := by
  unfold f_Math_floorMod f_Math_floorMod_18
  rw [if_neg (by decide), if_neg (xor_nn (by rw [I_toInt hn]; omega) (by decide)), show iRem (I n) 24 = I (n % 24) from I_rem (b := 24) hn (by decide)]
theorem S_at {e n : Nat} (hn : n < 2 ^ 31) : f_Outbox_at e (I n) = some (24 * e + n % 24) := by
  unfold f_Outbox_at
  rw [fmod24 hn, bdS, inbT (show n % 24 < 24 by omega) (by decide), if_pos rfl, I_ix (by omega)]
theorem S_cout {A : MA} {e p : Nat} {S : St} (h : RSe A e S) (hp : p < 2) (hb : bO A e) : f_Outbox_countOut e (I p) S = some (I (cOut A e p)) := by
  obtain ⟨b1, b2, b3, b4, b5, b6, b7, b8⟩ := hb
  have hf : S cOutbox_firstNumber e 0 = I (aN A e 3 + 1) := sr_first h
  have hx : S cOutbox_nextNumber e 0 = I (aN A e 4 + 1) := sr_next h
  have key : sat (f_Outbox_countOut e (I p) S) (fun r => r = I (cOut A e p)) := by
    unfold f_Outbox_countOut f_Outbox_countOut_7
    rw [hf]
    refine sat_upP (fun i x => x = (I (cntN (fun n => decide (oSt A e n = 2) && Nat.beq (oPa A e n) p) (aN A e 3) i), I (aN A e 3 + 1 + i))) (m_len A e) (fun i x hi hx2 => ?_) (fun x hx2 => ?_) rfl (by unfold m_len; omega)
    · subst hx2
      unfold m_len at hi
      obtain ⟨⟨o1, o2, o3⟩, _⟩ := sr_o h (n := aN A e 3 + 1 + i) (by omega) (by omega)
      have o1' : S cSentWord_state (24 * e + (aN A e 3 + 1 + i) % 24) 0 = oSt A e (aN A e 3 + 1 + i) := o1
      have o2' : S cSentWord_lastPath (24 * e + (aN A e 3 + 1 + i) % 24) 0 = I (oPa A e (aN A e 3 + 1 + i)) := o2
      have hpa := b5 (aN A e 3 + 1 + i)
      unfold f_Outbox_countOut_7_b f_Outbox_countOut_42
      dsimp only
      rw [hx, if_pos ((I_lt (by omega) (by omega)).mpr (by omega)), S_at (by omega), bdS, bdS, o1', o2']
      have hc : cntN (fun n => decide (oSt A e n = 2) && Nat.beq (oPa A e n) p) (aN A e 3) (i + 1) = cntN (fun n => decide (oSt A e n = 2) && Nat.beq (oPa A e n) p) (aN A e 3) i + (if (decide (oSt A e (aN A e 3 + 1 + i) = 2) && Nat.beq (oPa A e (aN A e 3 + 1 + i)) p) = true then 1 else 0) := by
        rw [cntN, show aN A e 3 + i + 1 = aN A e 3 + 1 + i by omega]
      by_cases c1 : oSt A e (aN A e 3 + 1 + i) = 2
      · rw [if_pos c1]
        by_cases c2 : oPa A e (aN A e 3 + 1 + i) = p
        · rw [if_pos (by rw [c2])]
          rw [if_pos (by rw [decide_eq_true c1, c2, Nat.beq_refl]; rfl)] at hc
          refine .some ?_
          rw [hc, show (1 : Int32) = I 1 from rfl, I_add, I_add]
          rfl
        · rw [if_neg (fun z => c2 ((I_eq (by omega) (by omega)).mp z))]
          have c2' : Nat.beq (oPa A e (aN A e 3 + 1 + i)) p = false := by
            cases hz : Nat.beq (oPa A e (aN A e 3 + 1 + i)) p with
            | false => rfl
            | true => exact absurd (Nat.eq_of_beq_eq_true hz) c2
          rw [if_neg (by rw [c2', Bool.and_false]; decide)] at hc
          refine .some ?_
          rw [hc, show (1 : Int32) = I 1 from rfl, I_add]
          rfl
      · rw [if_neg c1]
        rw [if_neg (by rw [decide_eq_false c1, Bool.false_and]; decide)] at hc
        refine .some ?_
        rw [hc, show (1 : Int32) = I 1 from rfl, I_add]
        rfl
    · subst hx2
      unfold f_Outbox_countOut_7_b
      dsimp only
      unfold m_len at *
      rw [hx, if_neg (fun z => by have := (I_lt (by omega) (by omega)).mp z; omega)]
      exact .exW (.some rfl)
  obtain ⟨r, h1, rfl⟩ := key
  exact h1
theorem cntN_or {f g k : Nat → Bool} {a : Nat} (h : ∀ n, k n = (f n || g n)) (hd : ∀ n, f n = true → g n = false) : ∀ m, cntN k a m = cntN f a m + cntN g a m
  | 0 => rfl
  | m + 1 => by
    rw [cntN, cntN, cntN, cntN_or h hd m, h]
    cases hf : f (a + m + 1) with
    | true =>
      rw [hd _ hf]
      simp
      omega
    | false =>
      cases hg : g (a + m + 1) <;> simp <;> omega
theorem S_cund {A : MA} {e : Nat} {S : St} (h : RSe A e S) (hb : bO A e) : f_Outbox_countOutOrMarked e S = some (I (m_und A e)) := by
  obtain ⟨b1, b2, b3, b4, b5, b6, b7, b8⟩ := hb
  have hf : S cOutbox_firstNumber e 0 = I (aN A e 3 + 1) := sr_first h
  have hx : S cOutbox_nextNumber e 0 = I (aN A e 4 + 1) := sr_next h
  have hund : cntN (isOM A e) (aN A e 3) (m_len A e) = m_und A e := cntN_or (f := fun n => decide (oSt A e n = 2)) (g := fun n => decide (oSt A e n = 3)) (fun n => rfl) (fun n hn => decide_eq_false (fun z => by rw [of_decide_eq_true hn] at z; exact absurd z (by decide))) _
  have key : sat (f_Outbox_countOutOrMarked e S) (fun r => r = I (m_und A e)) := by
    unfold f_Outbox_countOutOrMarked f_Outbox_countOutOrMarked_7
    rw [hf]
    refine sat_upP (fun i x => x = (I (cntN (isOM A e) (aN A e 3) i), I (aN A e 3 + 1 + i))) (m_len A e) (fun i x hi hx2 => ?_) (fun x hx2 => ?_) rfl (by unfold m_len; omega)
    · subst hx2
      unfold m_len at hi
      obtain ⟨⟨o1, o2, o3⟩, _⟩ := sr_o h (n := aN A e 3 + 1 + i) (by omega) (by omega)
      have o1' : S cSentWord_state (24 * e + (aN A e 3 + 1 + i) % 24) 0 = oSt A e (aN A e 3 + 1 + i) := o1
      unfold f_Outbox_countOutOrMarked_7_b f_Outbox_countOutOrMarked_39 f_Outbox_countOutOrMarked_42
      dsimp only
      rw [hx, if_pos ((I_lt (by omega) (by omega)).mpr (by omega)), S_at (by omega), bdS, bdS, o1']
      have hc : cntN (isOM A e) (aN A e 3) (i + 1) = cntN (isOM A e) (aN A e 3) i + (if isOM A e (aN A e 3 + 1 + i) = true then 1 else 0) := by
        rw [cntN, show aN A e 3 + i + 1 = aN A e 3 + 1 + i by omega]
      by_cases c1 : oSt A e (aN A e 3 + 1 + i) = 2
      · rw [if_pos c1]
        rw [if_pos (by unfold isOM; rw [decide_eq_true c1]; rfl)] at hc
        refine .some ?_
        rw [hc, show (1 : Int32) = I 1 from rfl, I_add, I_add]
        rfl
      · rw [if_neg c1]
        by_cases c2 : oSt A e (aN A e 3 + 1 + i) = 3
        · rw [if_pos c2]
          rw [if_pos (by unfold isOM; rw [decide_eq_true c2, Bool.or_true])] at hc
          refine .some ?_
          rw [hc, show (1 : Int32) = I 1 from rfl, I_add, I_add]
          rfl
        · rw [if_neg c2]
          rw [if_neg (by unfold isOM; rw [decide_eq_false c1, decide_eq_false c2]; decide)] at hc
          refine .some ?_
          rw [hc, show (1 : Int32) = I 1 from rfl, I_add]
          rfl
    · subst hx2
      unfold f_Outbox_countOutOrMarked_7_b
      dsimp only
      rw [hx, if_neg (fun z => by unfold m_len at z; have := (I_lt (by omega) (by omega)).mp z; omega), hund]
      exact .exW (.some rfl)
  obtain ⟨r, h1, rfl⟩ := key
  exact h1
theorem S_fst {A : MA} {e : Nat} {S : St} (h : RSe A e S) (hb : bO A e) : f_Outbox_firstToSend e S = some (if aN A e 4 < m_fst A e then -1 else I (m_fst A e)) := by
  obtain ⟨b1, b2, b3, b4, b5, b6, b7, b8⟩ := hb
  have hf : S cOutbox_firstNumber e 0 = I (aN A e 3 + 1) := sr_first h
  have hx : S cOutbox_nextNumber e 0 = I (aN A e 4 + 1) := sr_next h
  have key : sat (f_Outbox_firstToSend e S) (fun r => r = if aN A e 4 < m_fst A e then -1 else I (m_fst A e)) := by
    unfold f_Outbox_firstToSend f_Outbox_firstToSend_5
    rw [hf]
    refine sat_iter (fun j x => ∃ a, x = I (a + 1) ∧ aN A e 3 ≤ a ∧ a + j = aN A e 4 ∧ fstN (isTS A e) a j = m_fst A e) (P := fun r => r = if aN A e 4 < m_fst A e then -1 else I (m_fst A e)) ?_ (i := m_len A e) (by unfold m_len; omega) ⟨aN A e 3, rfl, Nat.le_refl _, by unfold m_len; omega, rfl⟩
    rintro j x ⟨a, rfl, ha, hj, hfs⟩
    unfold f_Outbox_firstToSend_5_b f_Outbox_firstToSend_32
    rw [hx]
    cases j with
    | zero =>
      rw [if_neg (fun z => by have := (I_lt (by omega) (by omega)).mp z; omega)]
      rw [fstN] at hfs
      exact .exW (.some (by rw [if_pos (by omega)]; rfl))
    | succ j =>
      obtain ⟨⟨o1, o2, o3⟩, _⟩ := sr_o h (n := a + 1) (by omega) (by omega)
      have o1' : S cSentWord_state (24 * e + (a + 1) % 24) 0 = oSt A e (a + 1) := o1
      rw [if_pos ((I_lt (by omega) (by omega)).mpr (by omega)), S_at (by omega), bdS, o1']
      rw [fstN] at hfs
      by_cases h1 : oSt A e (a + 1) = 1
      · rw [if_pos h1]
        rw [if_pos (by unfold isTS; rw [decide_eq_true h1]; rfl)] at hfs
        exact .exW (.some (by rw [if_neg (by omega), hfs]; rfl))
      · rw [if_neg h1]
        by_cases h3 : oSt A e (a + 1) = 3
        · rw [if_pos h3]
          rw [if_pos (by unfold isTS; rw [decide_eq_true h3, Bool.or_true])] at hfs
          exact .exW (.some (by rw [if_neg (by omega), hfs]; rfl))
        · rw [if_neg h3]
          rw [if_neg (by unfold isTS; rw [decide_eq_false h1, decide_eq_false h3]; decide)] at hfs
          exact .some ⟨j, by omega, a + 1, I_add (a + 1) 1, by omega, by omega, hfs⟩
  obtain ⟨r, h1, rfl⟩ := key
  exact h1
theorem S_pfor {A : MA} {e n : Nat} {S : St} (h : RSe A e S) (hu : uS A e S) (hb : bO A e) (h1 : aN A e 3 < n) (h2 : n ≤ aN A e 4) (hts : isTS A e n = true) : f_End_pathFor e (24 * e + n % 24) S = some (I (m_path A e n)) := by
  obtain ⟨⟨o1, o2, o3⟩, _⟩ := sr_o h h1 h2
  have o1' : S cSentWord_state (24 * e + n % 24) 0 = oSt A e n := o1
  have o2' : S cSentWord_lastPath (24 * e + n % 24) 0 = I (oPa A e n) := o2
  have hpa := hb.2.2.2.2.1 n
  have hac : S cPath_active (2 * e + (1 - oPa A e n)) 0 = b01 (aB A e (1 - oPa A e n)) := (hu.2 (1 - oPa A e n) (by omega)).2.1
  have hTS : oSt A e n = 1 ∨ oSt A e n = 3 := by
    unfold isTS at hts
    rw [Bool.or_eq_true, decide_eq_true_iff, decide_eq_true_iff] at hts
    exact hts
  unfold f_End_pathFor f_End_pathFor_31 m_path
  rw [S_ptu hu hb.1, bdS, o1', o2', show (1 : Int32) - I (oPa A e n) = I (1 - oPa A e n) from I_sub (a := 1) (by omega), inbT (show 1 - oPa A e n < 2 by omega) (by decide), I_ix (by omega), hac, b01_nz]
  by_cases c3 : oSt A e n = 3
  · rw [if_pos c3, if_pos rfl]
    have c1 : oSt A e n ≠ 1 := by rw [c3]; decide
    cases hA : aB A e (1 - oPa A e n) with
    | false =>
      rw [if_pos (by decide), if_neg (fun z => absurd z.2 (by decide))]
    | true =>
      rw [if_neg (by decide), if_pos ⟨c1, rfl⟩]
  · rw [if_neg c3, if_neg (fun z => z.1 (hTS.resolve_right c3))]
theorem S_may {A : MA} {e n p : Nat} {S : St} (h : RSe A e S) (hu : uS A e S) (hb : bO A e) (hp : p < 2) (h1 : aN A e 3 < n) (h2 : n ≤ aN A e 4) : f_End_mayGo e (24 * e + n % 24) (I p) S = some (if m_may A e n p = true then 1 else 0) := by
  obtain ⟨⟨o1, o2, o3⟩, _⟩ := sr_o h h1 h2
  have o1' : S cSentWord_state (24 * e + n % 24) 0 = oSt A e n := o1
  have hrt : S cPath_rate (2 * e + p) 0 = I (aN A e (7 + p)) := (hu.2 p hp).1.1
  have hw : S cOutbox_window e 0 = aI A e 5 := hu.1.2.2
  have d1 := cOut_le hb (p := p)
  have d2 : m_und A e ≤ 48 := by
    have := cSt_le hb (k := 2)
    have := cSt_le hb (k := 3)
    unfold m_und
    omega
  have d3 := (hb.2.2.2.2.2.2.1 p hp).1
  have hlt : (I (cOut A e p) < I (aN A e (7 + p))) ↔ cOut A e p < aN A e (7 + p) := I_lt (by omega) (by omega)
  have hz : (I (m_und A e) = 0) ↔ m_und A e = 0 := I_eq (b := 0) (by omega) (by decide)
  unfold f_End_mayGo f_End_mayGo_53
  rw [S_cout h hp hb, bdS, inbT hp (by decide), if_pos rfl, I_ix (by omega), hrt, S_cund h hb, bdS, o1', hw]
  by_cases c1 : cOut A e p < aN A e (7 + p)
  · rw [if_pos (hlt.mpr c1)]
    by_cases c2 : oSt A e n = 1
    · rw [if_pos c2]
      by_cases c3 : m_und A e = 0
      · rw [if_pos (hz.mpr c3), if_pos (show m_may A e n p = true from decide_eq_true ⟨c1, fun _ => Or.inr c3⟩)]
      · rw [if_neg (fun z => c3 (hz.mp z))]
        by_cases c4 : I (m_und A e) < aI A e 5
        · rw [if_pos c4, if_pos (show m_may A e n p = true from decide_eq_true ⟨c1, fun _ => Or.inl c4⟩)]
        · rw [if_neg c4, if_neg (fun z => ((of_decide_eq_true z).2 c2).elim c4 c3)]
    · rw [if_neg c2, if_pos (show m_may A e n p = true from decide_eq_true ⟨c1, fun z => absurd z c2⟩)]
  · rw [if_neg (fun z => c1 (hlt.mp z)), if_neg (fun z => c1 (of_decide_eq_true z).1)]
