/-! Calls of the class that speak of rows. -/
theorem isEnd_I {e : Nat} (he : e < 2) : ¬ f_L_isEnd (I e) = 0 := by
  have : e = 0 ∨ e = 1 := by omega
  rcases this with rfl | rfl <;> decide
theorem isPath_I {e : Nat} (he : e < 2) : ¬ f_L_isPath (I e) = 0 := by
  have : e = 0 ∨ e = 1 := by omega
  rcases this with rfl | rfl <;> decide
theorem isStr_I {s : Nat} (hs : s < 3) : ¬ f_L_isStream (I s) = 0 := by
  have : s = 0 ∨ s = 1 ∨ s = 2 := by omega
  rcases this with rfl | rfl | rfl <;> decide
theorem S_ptu {A : MA} {e : Nat} {S : St} (h : uS A e S) (hp : aN A e 2 < 2) : f_End_pathToUse e S = some (I (m_ptu A e)) := by
  obtain ⟨⟨u1, u2, u3⟩, u4⟩ := h
  have p0 : S cPath_active (2 * e + aN A e 2) 0 = b01 (aB A e (aN A e 2)) := (u4 _ hp).2.1
  have p1 : S cPath_active (2 * e + (1 - aN A e 2)) 0 = b01 (aB A e (1 - aN A e 2)) := (u4 (1 - aN A e 2) (by omega)).2.1
  have u1' : S cEnd_primaryPath e 0 = I (aN A e 2) := u1
  unfold f_End_pathToUse f_End_pathToUse_38 m_ptu
  rw [u1', show (1 : Int32) - I (aN A e 2) = I (1 - aN A e 2) from I_sub (a := 1) (by omega), inbT hp (by decide), inbT (show 1 - aN A e 2 < 2 by omega) (by decide), I_ix (by omega), I_ix (by omega), if_pos rfl, p0, p1, b01_nz, b01_nz]
  cases aB A e (aN A e 2) <;> cases aB A e (1 - aN A e 2) <;> rfl
theorem pk_plain {t k : Int32} {S : St} {o : Nat} (h1 : S 26 o 0 = k) (h2 : S 27 o 0 = t) (hk : k = 3 ∨ k = 8) : pkS (pkt t k 0 0 0 0 0) S o := by
  refine ⟨h1, h2, fun z => ?_, fun z => ?_, fun z => ?_, fun z => ?_, fun z => ?_⟩
  · have z : k = 0 ∨ k = 1 := z
    rcases hk with rfl | rfl <;> exact absurd z (by decide)
  · have z : k = 1 ∨ k = 2 := z
    rcases hk with rfl | rfl <;> exact absurd z (by decide)
  · have z : k = 4 := z
    rcases hk with rfl | rfl <;> exact absurd z (by decide)
  · have z : k = 5 := z
    rcases hk with rfl | rfl <;> exact absurd z (by decide)
  · have z : k = 6 ∨ k = 7 := z
    rcases hk with rfl | rfl <;> exact absurd z (by decide)
theorem S_pabort {A : MA} {e : Nat} {S : St} (h : RSe A e S) (he : e < 2) (hu : uS A e S) (hb : bP A) (hp : aN A e 2 < 2) : sat (f_End_postAbort e S) (fun S' => RSe (m_post A (2 * e + m_ptu A e) (pkt (aI A e 2) 8 0 0 0 0 0)) e S' ∧ frS e S S') := by
  have hlt := m_ptu_lt hp
  unfold f_End_postAbort
  rw [S_ptu hu hp, bdS]
  obtain ⟨o, S1, e1, ⟨o1, o2⟩, e2, e3, e4, e5, e6⟩ := S_post h he hlt (hb _ (by omega)) (k := 8)
  rw [e1]
  exact .some (e6 _ S1 (fun x i _ => rfl) (fun _ => pk_plain e2 e3 (Or.inr rfl)))
theorem m_close_gI (A : MA) (e : Nat) (w : Int32) : gI (m_close A e w) = gI A := rfl
theorem m_close_gT (A : MA) (e : Nat) (w : Int32) : gT (m_close A e w) = gT A := rfl
theorem m_post_aHk {A : MA} {r e : Nat} {q : Pkt} (h : ∀ k n, 544 ≤ n → aH A e k n = false) : ∀ k n, 544 ≤ n → aH (m_post A r q) e k n = false := by
  rw [m_post_aH]
  exact h
theorem S_abort {A : MA} {S : St} (h : RS A S) (hb : bP A) {e : Nat} (he : e < 2) (hp : aN A e 2 < 2) (hH : ∀ k n, 544 ≤ n → aH A e k n = false) : sat (f_L_abort 0 (I e) S) (fun x => x.1 = (if aI A e 0 = 0 then 0 else 1) ∧ RS (if aI A e 0 = 0 then A else m_abort A e) x.2) := by
  unfold f_L_abort f_L_abort_43 f_L_abort_19
  have hst : S cEnd_state e 0 = aI A e 0 := sr_state (h.e he)
  rw [if_neg (isEnd_I he), inbT he (by decide), if_pos rfl, I_ix (by omega), hst]
  by_cases h0 : aI A e 0 = 0
  · rw [if_pos h0]
    simp only [if_pos h0]
    exact .some ⟨rfl, h⟩
  · rw [if_neg h0]
    simp only [if_neg h0]
    rw [if_pos trivial]
    unfold m_abort
    by_cases h3 : aI A e 0 = 3
    · rw [if_pos h3, if_pos h3, if_pos trivial]
      refine .bd (S_pabort (h.e he) he ((h.e he).1.2 h3) hb hp) (fun S1 h1 => ?_)
      rw [if_pos trivial]
      refine .bd (S_close h1.1 he (m_post_aHk hH)) (fun S2 h2 => .some ⟨rfl, ?_⟩)
      have hlt := m_ptu_lt hp
      exact RS_up h he ⟨h2.1, h1.2.trans h2.2⟩ (.trans fr_post fr_close) (fun r hr => by rw [m_close_aP, m_post_aP (by omega)]) (by rw [m_close_gI, m_post_gI]) (by rw [m_close_gT, m_post_gT])
    · rw [if_neg h3, if_neg h3, if_pos trivial]
      refine .bd (S_close (h.e he) he hH) (fun S2 h2 => .some ⟨rfl, ?_⟩)
      exact RS_up h he h2 fr_close (fun r hr => rfl) rfl rfl
theorem S_primary {A : MA} {S : St} (h : RS A S) {e p : Nat} (he : e < 2) (hp : p < 2) : sat (f_L_primary 0 (I e) (I p) S) (fun x => x.1 = (if aI A e 0 = 3 then 1 else 0) ∧ RS (if aI A e 0 = 3 then sN A e 2 p else A) x.2) := by
  unfold f_L_primary f_L_primary_27
  have hst : S cEnd_state e 0 = aI A e 0 := sr_state (h.e he)
  rw [if_neg (isEnd_I he), if_neg (isPath_I hp), inbT he (by decide), if_pos rfl, I_ix (by omega), hst]
  by_cases h3 : aI A e 0 = 3
  · rw [if_pos h3, if_pos rfl]
    simp only [if_pos h3]
    exact .some ⟨rfl, RS_up h he ⟨ss_primary (h.e he), frS.rfl.up (ow_e (by decide))⟩ fr_sN (fun r hr => rfl) rfl rfl⟩
  · rw [if_neg h3]
    simp only [if_neg h3]
    exact .some ⟨rfl, h⟩
theorem S_waiting {A : MA} {S : St} (h : RS A S) {e p : Nat} (he : e < 2) (hp : p < 2) : f_L_waiting 0 (I e) (I p) S = some (I (aP A (2 * e + p)).length) := by
  obtain ⟨a, ha, r1, r2, r3⟩ := sr_row (h.e he) hp
  unfold f_L_waiting
  rw [if_neg (isEnd_I he), if_neg (isPath_I hp), inbT he (by decide), if_pos rfl, inbT hp (by decide), if_pos rfl, I_ix (by omega), I_ix (by omega)]
  exact congrArg some r2
theorem S_take {A : MA} {e p : Nat} {S : St} (h : RSe A e S) (he : e < 2) (hp : p < 2) (hb : (aP A (2 * e + p)).length ≤ 8) {q : Pkt} {l : List Pkt} (hl : aP A (2 * e + p) = q :: l) : ∃ o, f_Row_oldest (2 * e + p) S = some o ∧ (9 * (2 * e + p) ≤ o ∧ o < 9 * (2 * e + p) + 8) ∧ pkS q (f_Row_removeOldest (2 * e + p) S) o ∧ RSe (m_take A (2 * e + p)) e (f_Row_removeOldest (2 * e + p) S) ∧ frS e S (f_Row_removeOldest (2 * e + p) S) ∧ pkS q S o ∧ ∀ x i, x ≠ 47 → x ≠ 48 → f_Row_removeOldest (2 * e + p) S x i = S x i := by
  obtain ⟨a, ha, r1, r2, r3⟩ := sr_row h hp
  have hR : 2 * e + p < 4 := by omega
  have hdiv : (2 * e + p) / 2 = e := by omega
  have r2' : S cRow_count (2 * e + p) 0 = I (aP A (2 * e + p)).length := r2
  have r1' : S cRow_start (2 * e + p) 0 = I a := r1
  have hlen : (aP A (2 * e + p)).length = l.length + 1 := by rw [hl]; rfl
  have em : iRem (I a + 1) 8 = I ((a + 1) % 8) := by
    rw [show (1 : Int32) = I 1 from rfl, I_add]
    exact I_rem (b := 8) (by omega) (by decide)
  have hrm : f_Row_removeOldest (2 * e + p) S = up3 (up3 S 47 (2 * e + p) 0 (I ((a + 1) % 8))) 48 (2 * e + p) 0 (I l.length) := by
    unfold f_Row_removeOldest
    rw [r2', r1', if_pos (show (0 : Int32) < I (aP A (2 * e + p)).length from (I_lt (a := 0) (by decide) (by omega)).mpr (by omega)), em, show (1 : Int32) = I 1 from rfl, I_sub (by omega), hlen]
    rfl
  have hq := r3 0 q (by rw [hl]; rfl)
  rw [Nat.add_zero, Nat.mod_eq_of_lt ha] at hq
  rw [hrm]
  refine ⟨9 * (2 * e + p) + a, ?_, ⟨by omega, by omega⟩, pkS_cg hq (fun x hx => by rw [up3_ob (by unfold pcd at hx; omega), up3_ob (by unfold pcd at hx; omega)]), ?_, (frS.rfl.up (by rw [ow_row (Or.inl rfl), hdiv])).up (by rw [ow_row (Or.inr rfl), hdiv]), hq, fun x i h1 h2 => by rw [up3_code h2, up3_code h1]⟩
  · unfold f_Row_oldest
    rw [r1', inbT ha (by decide), if_pos rfl, I_ix (by omega)]
  · unfold m_take
    refine RSx_R h he hp (fun x i x1 x2 _ => by rw [up3_code x2, up3_code x1]) (fun x i hx hi => by rw [up3_ob (by omega), up3_ob (by omega)]) ⟨(a + 1) % 8, by omega, ?_, ?_, fun i w hw => ?_⟩
    · rw [up3_code (by decide), up3_at, if_pos rfl]
    · rw [up3_at, if_pos rfl, hl]; rfl
    · rw [hl] at hw
      have hi : i < l.length := (List.getElem?_eq_some_iff.mp hw).1
      have := r3 (i + 1) w (by rw [hl]; exact hw)
      rw [show ((a + 1) % 8 + i) % 8 = (a + (i + 1)) % 8 by omega]
      exact pkS_cg this (fun x hx => by rw [up3_ob (by unfold pcd at hx; omega), up3_ob (by unfold pcd at hx; omega)])
theorem nz_b {x : Int32} {b : Bool} (h : x = b01 b) : nz x = b01 b := by rw [h, b01_nz]
theorem S_wcopy {w : WC} {n : Nat} {S S1 : St} {u u1 : Nat} (h : wrS w n S u1) (hu : u ≠ u1) (hS : ∀ x, 54 ≤ x → x ≤ 60 → S1 x u1 = S x u1) : wrS w n (f_Word_copyFrom u u1 S1) u ∧ ∀ x i, (x < 54 ∨ 60 < x ∨ i ≠ u) → f_Word_copyFrom u u1 S1 x i = S1 x i := by
  obtain ⟨⟨h1, h2, h3, h4⟩, h5, h6, h7⟩ := h
  have g : ∀ x, 54 ≤ x → x ≤ 60 → S1 x u1 0 = S x u1 0 := fun x a b => by rw [hS x a b]
  have g54 : S1 cWord_number u1 0 = I n := (g 54 (by decide) (by decide)).trans h1
  have g55 : S1 cWord_value u1 0 = w.1 := (g 55 (by decide) (by decide)).trans h2
  have g56 : S1 cWord_stream u1 0 = I w.2.1 := (g 56 (by decide) (by decide)).trans h3
  have g57 : S1 cWord_order u1 0 = I w.2.2.1 := (g 57 (by decide) (by decide)).trans h4
  have g58 : nz (S1 cWord_first u1 0) = b01 w.2.2.2.1 := nz_b ((g 58 (by decide) (by decide)).trans h5)
  have g59 : nz (S1 cWord_last u1 0) = b01 w.2.2.2.2.1 := nz_b ((g 59 (by decide) (by decide)).trans h6)
  have g60 : nz (S1 cWord_unordered u1 0) = b01 w.2.2.2.2.2 := nz_b ((g 60 (by decide) (by decide)).trans h7)
  unfold f_Word_copyFrom
  rw [g54, g55, g56, g57, g58, g59, g60]
  refine ⟨⟨⟨?_, ?_, ?_, ?_⟩, ?_, ?_, ?_⟩, fun x i hx => ?_⟩
  · rw [up3_code (by decide), up3_code (by decide), up3_code (by decide), up3_code (by decide), up3_code (by decide), up3_code (by decide), up3_at, if_pos rfl]
  · rw [up3_code (by decide), up3_code (by decide), up3_code (by decide), up3_code (by decide), up3_code (by decide), up3_at, if_pos rfl]
  · rw [up3_code (by decide), up3_code (by decide), up3_code (by decide), up3_code (by decide), up3_at, if_pos rfl]
  · rw [up3_code (by decide), up3_code (by decide), up3_code (by decide), up3_at, if_pos rfl]
  · rw [up3_code (by decide), up3_code (by decide), up3_at, if_pos rfl]
  · rw [up3_code (by decide), up3_at, if_pos rfl]
  · rw [up3_at, if_pos rfl]
  · rw [up3_ob (c := 60) (by omega), up3_ob (c := 59) (by omega), up3_ob (c := 58) (by omega), up3_ob (c := 57) (by omega), up3_ob (c := 56) (by omega), up3_ob (c := 55) (by omega), up3_ob (c := 54) (by omega)]
