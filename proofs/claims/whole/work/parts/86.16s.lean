theorem S_beat {A : MA} {e p : Nat} {S : St} (h : RSe A e S) (he : e < 2) (hbp : bP A) (hp : p < 2) : sat (f_End_postBeat e (I p) (I (gN A 0)) S) (fun S' => RSe (m_beat A e p) e S' ∧ frS e S S') := by
  have h1 : RSe (sI (sB A e (4 + p) true) e (8 + p) (I (gN A 0))) e (up3 (up3 S 39 (2 * e + p) 0 1) 40 (2 * e + p) 0 (I (gN A 0))) := by
    refine ss_path h hp (.trans eqX_B (eqX_I (by omega))) rfl (up2_ne2 (by omega)) (up2_ne2 (by omega)) (fun q hq hne => ⟨⟨rfl, rfl, rfl⟩, ⟨up2_ne2 (by omega), up2_ne2 (by omega)⟩, up2_ne2 (by omega), up2_ne2 (by omega), up2_ne2 (by omega)⟩) (fun x i hx => by rw [up3_ob (by omega), up3_ob (by omega)]) (fun _ hps => ?_)
    obtain ⟨⟨p1, p2, p3⟩, p4, ⟨p5, p6⟩, p7, p8⟩ := hps
    have i6 : aI (sI (sB A e (4 + p) true) e (8 + p) (I (gN A 0))) e (6 + p) = aI A e (6 + p) := up2_ne2 (by omega)
    have i8 : aI (sI (sB A e (4 + p) true) e (8 + p) (I (gN A 0))) e (8 + p) = I (gN A 0) := up2_eq
    have b0 : aB (sI (sB A e (4 + p) true) e (8 + p) (I (gN A 0))) e p = aB A e p := up2_ne2 (by omega)
    have b2 : aB (sI (sB A e (4 + p) true) e (8 + p) (I (gN A 0))) e (2 + p) = aB A e (2 + p) := up2_ne2 (by omega)
    have b4 : aB (sI (sB A e (4 + p) true) e (8 + p) (I (gN A 0))) e (4 + p) = true := up2_eq
    unfold pS
    rw [i6, i8, b0, b2, b4]
    refine ⟨⟨?_, ?_, ?_⟩, ?_, ⟨?_, fun z => ?_⟩, ?_, fun z => ?_⟩
    · rw [up3_code (by decide), up3_code (by decide)]; exact p1
    · rw [up3_code (by decide), up3_code (by decide)]; exact p2
    · rw [up3_code (by decide), up3_code (by decide)]; exact p3
    · rw [up3_code (by decide), up3_code (by decide)]; exact p4
    · rw [up3_code (by decide), up3_code (by decide)]; exact p5
    · rw [up3_code (by decide), up3_code (by decide)]; exact p6 z
    · rw [up3_code (by decide), up3_at, if_pos rfl]; rfl
    · rw [up3_at, if_pos rfl]
  obtain ⟨o, S1, e1, ⟨o1, o2⟩, e2, e3, e4, e5, e6⟩ := S_post h1 he hp (hbp _ (by omega)) (k := 6)
  unfold f_End_postBeat
  rw [inbT hp (by decide), if_pos rfl, if_pos rfl, I_ix (by omega), e1]
  have hoth : aI (sI (sB A e (4 + p) true) e (8 + p) (I (gN A 0))) e 2 = aI A e 2 := up2_ne2 (by omega)
  have r := e6 (pkt (aI A e 2) 6 (I (gN A 0)) 0 0 0 0) (up3 S1 32 o 0 (I (gN A 0))) (fun x i hx => up3_ob (by unfold pcd at hx; omega)) (fun _ => by
    refine ⟨?_, ?_, fun z => ?_, fun z => ?_, fun z => ?_, fun z => ?_, fun _ => ?_⟩
    · rw [up3_code (by decide)]; exact e2
    · rw [up3_code (by decide), e3, hoth]; rfl
    · exact absurd z (by show ¬ ((6 : Int32) = 0 ∨ (6 : Int32) = 1); decide)
    · exact absurd z (by show ¬ ((6 : Int32) = 1 ∨ (6 : Int32) = 2); decide)
    · exact absurd z (by show ¬ ((6 : Int32) = 4); decide)
    · exact absurd z (by show ¬ ((6 : Int32) = 5); decide)
    · rw [up3_at, if_pos rfl]; rfl)
  exact .some ⟨r.1, ((frS.rfl.up (ow_p (by decide) hp)).up (ow_p (by decide) hp)).trans r.2⟩
theorem m_fail_g {A : MA} {e p : Nat} (he : e < 2) (hpr : aN A e 2 < 2) : (∀ r, r / 2 ≠ e → aP (m_fail A e p) r = aP A r) ∧ gI (m_fail A e p) = gI A ∧ gT (m_fail A e p) = gT A := by
  unfold m_fail
  dsimp only
  by_cases hc : I (gN A 2) < aI A e 4 + 1
  · rw [if_pos hc]
    have hpC : aN (sB (sI (sI A e (6 + p) (aI A e (6 + p) + 1)) e 4 (aI A e 4 + 1)) e p (aB A e p && decide (aI A e (6 + p) + 1 < 3))) e 2 < 2 := hpr
    have hlt := m_ptu_lt hpC
    refine ⟨fun r hr => ?_, ?_, ?_⟩
    · rw [m_close_aP, m_post_aP (by omega)]
    · rw [m_close_gI, m_post_gI]
    · rw [m_close_gT, m_post_gT]
  · rw [if_neg hc]
    exact ⟨fun _ _ => rfl, rfl, rfl⟩
theorem m_fail_H {A : MA} {e p : Nat} (hH : ∀ k n, 544 ≤ n → aH A e k n = false) : ∀ k n, 544 ≤ n → aH (m_fail A e p) e k n = false := by
  intro k n hn
  unfold m_fail
  dsimp only
  by_cases hc : I (gN A 2) < aI A e 4 + 1
  · rw [if_pos hc]
    unfold m_close m_empty
    show (if e = e ∧ k < 2 ∧ n < 544 then false else aH (m_post _ _ _) e k n) = false
    rw [if_neg (by omega), m_post_aH]
    exact hH k n hn
  · rw [if_neg hc]
    exact hH k n hn
theorem S_tickP {A : MA} {e p : Nat} {S : St} (h : RSe A e S) (he : e < 2) (h3 : aI A e 0 = 3) (hbp : bP A) (hp : p < 2) (hb : bE A e) (hH : ∀ k n, 544 ≤ n → aH A e k n = false) (hT : aB A e (2 + p) = true → gN A 0 ≤ aN A e (11 + p)) : sat (f_End_passPathTick e (I p) (I (gN A 0)) S) (fun S' => RSe (m_tickP A e p) e S' ∧ frS e S S') := by
  obtain ⟨hbo, hbr, hbt, ht, hl⟩ := hb
  obtain ⟨b1, b2, b3, b4, b5, b6, b7, b8⟩ := id hbo
  have hbt := hbt p hp
  have hu := h.1.2 h3
  have hps := hu.2 p hp
  have hco := cOut_le hbo (p := p)
  have hrun : S cPath_timerRuns (2 * e + p) 0 = b01 (aB A e (2 + p)) := hps.2.2.1.1
  have hbeat : S cPath_beatOpen (2 * e + p) 0 = b01 (aB A e (4 + p)) := hps.2.2.2.1
  have k72 : ∀ (B : MA) (S1 : St), RSe B e S1 → frS e S S1 → bP B → gN B = gN A → sat (f_End_passPathTick_72 e (I p) (I (gN A 0)) S1) (fun S' => RSe (if aI B e 0 = 3 then m_beat B e p else B) e S' ∧ frS e S S') := by
    intro B S1 h1 hf hbB hgB
    have hst : S1 cEnd_state e 0 = aI B e 0 := sr_state h1
    unfold f_End_passPathTick_72
    rw [hst]
    by_cases hz : aI B e 0 = 3
    · rw [if_pos hz]
      simp only [if_pos hz]
      rw [show I (gN A 0) = I (gN B 0) by rw [hgB]]
      exact .bd (S_beat h1 he hbB hp) (fun S2 h2 => .some ⟨h2.1, hf.trans h2.2⟩)
    · rw [if_neg hz]
      simp only [if_neg hz]
      exact .some ⟨h1, hf⟩
  have k42 : ¬ (aB A e (2 + p) = true ∧ aN A e (11 + p) = gN A 0) → sat (f_End_passPathTick_42 e (I p) (I (gN A 0)) (2 * e + p) S) (fun S' => RSe (m_tickP A e p) e S' ∧ frS e S S') := by
    intro hn
    unfold f_End_passPathTick_42 m_tickP
    rw [if_neg hn, show iRem (I (gN A 0)) 8 = I (gN A 0 % 8) from I_rem (b := 8) (by omega) (by decide)]
    have hz : (I (gN A 0 % 8) = 0) ↔ gN A 0 % 8 = 0 := I_eq (b := 0) (by omega) (by decide)
    by_cases h8 : gN A 0 % 8 = 0
    · rw [if_pos (hz.mpr h8), S_cout h hp hbo, bdS]
      have hz2 : (I (cOut A e p) = 0) ↔ cOut A e p = 0 := I_eq (b := 0) (by omega) (by decide)
      by_cases h0 : cOut A e p = 0
      · rw [if_pos (hz2.mpr h0), if_pos (show gN A 0 % 8 = 0 ∧ cOut A e p = 0 from ⟨h8, h0⟩), hbeat, b01_nz]
        dsimp only
        cases hB : aB A e (4 + p) with
        | false =>
          rw [if_pos (show b01 false = 0 by decide)]
          simp only [Bool.false_eq_true, if_false]
          exact k72 A S h frS.rfl hbp rfl
        | true =>
          rw [if_neg (show ¬ b01 true = 0 by decide)]
          simp only [if_true]
          refine .bd (S_err h he h3 hbp hp b1 hH) (fun S1 h1 => ?_)
          exact k72 _ S1 h1.1 h1.2 (m_fail_bP hbp) (m_fail_gN A e p)
      · rw [if_neg (fun z => h0 (hz2.mp z)), if_neg (fun z => h0 z.2)]
        exact .some ⟨h, frS.rfl⟩
    · rw [if_neg (fun z => h8 (hz.mp z)), if_neg (fun z => h8 z.1)]
      exact .some ⟨h, frS.rfl⟩
  unfold f_End_passPathTick
  rw [inbT hp (by decide), if_pos rfl, I_ix (by omega), hrun, b01_nz]
  cases hR : aB A e (2 + p) with
  | false =>
    rw [if_pos (by decide)]
    exact k42 (fun z => by rw [hR] at z; exact absurd z.1 (by decide))
  | true =>
    have hdue : S cPath_timerDue (2 * e + p) 0 = I (aN A e (11 + p)) := hps.2.2.1.2 hR
    have hle := hT hR
    rw [if_neg (by decide), hdue]
    by_cases hlt : gN A 0 < aN A e (11 + p)
    · rw [if_pos ((I_lt (by omega) (by omega)).mpr hlt)]
      exact k42 (fun z => by omega)
    · rw [if_neg (fun z => hlt ((I_lt (by omega) (by omega)).mp z))]
      refine .bd (S_mark h he hp hbo) (fun S1 h1 => ?_)
      have hw : aN (m_mark A e p) e (9 + p) = aN A e (9 + p) := rfl
      have h2 := S_slow h1.1 hp (by rw [hw]; exact (b7 p hp).2)
      have h2' : RSe (m_late1 A e p) e (f_Path_slowDown (2 * e + p) S1) := h2
      have s3 : aI (m_late1 A e p) e 0 = 3 := h3
      have hpr : aN (m_late1 A e p) e 2 < 2 := by
        show up2 (up2 (aN A) e (7 + p) 1) e (9 + p) _ e 2 < 2
        rw [up2_ne2 (by omega), up2_ne2 (by omega)]
        exact b1
      unfold m_tickP
      rw [if_pos (show aB A e (2 + p) = true ∧ aN A e (11 + p) = gN A 0 from ⟨hR, by omega⟩)]
      have hbp' : bP (m_late1 A e p) := hbp
      have hH' : ∀ k n, 544 ≤ n → aH (m_late1 A e p) e k n = false := hH
      exact .bd (S_err h2' he s3 hbp' hp hpr hH') (fun S3 h3' => .some ⟨h3'.1, (h1.2.trans (slow_fr hp)).trans h3'.2⟩)
theorem S_again {A : MA} {e : Nat} {S : St} (h : RSe A e S) (he : e < 2) (hbp : bP A) (hH : ∀ k n, 544 ≤ n → aH A e k n = false) (h0 : aI A e 0 = 1 ∨ e = 0) (ht : aN A e 0 ≤ gN A 2) (hl : gN A 2 < 100) : sat (f_End_tryAgain e (I (gN A 0)) S) (fun S' => RSe (m_again A e) e S' ∧ frS e S S') := by
  have htr : S cEnd_tries e 0 = I (aN A e 0) := sr_tries h
  have hlim : S cEnd_limit e 0 = I (gN A 2) := h.2.2.2.2.1
  unfold f_End_tryAgain m_again
  rw [htr, hlim, show (3 : Int32) = I 3 from rfl, show (1 : Int32) = I 1 from rfl, I_add, I_add]
  by_cases hc : aN A e 0 = gN A 2
  · rw [if_neg (fun z => by have := (I_lt (by omega) (by omega)).mp z; omega), if_pos hc]
    exact .bd (S_close h he hH) (fun S' h' => .some h')
  · rw [if_pos ((I_lt (by omega) (by omega)).mpr (by omega)), if_neg hc]
    have e1 : up3 S cEnd_tries e 0 (I (aN A e 0 + 1)) cEnd_tries e 0 = I (aN A e 0 + 1) := by rw [up3_at, if_pos rfl]
    rw [e1, show iRem (I (aN A e 0 + 1)) 2 = I ((aN A e 0 + 1) % 2) from I_rem (b := 2) (by omega) (by decide)]
    have h2 := ss_due (ss_tries h (v := aN A e 0 + 1)) (v := gN A 0 + 3)
    have hm : (aN A e 0 + 1) % 2 < 2 := Nat.mod_lt _ (by decide)
    refine .bd (S_opening h2 he hm (hbp _ (by omega)) h0) (fun S' h' => .some ⟨?_, ((frS.rfl.up (ow_e (by decide))).up (ow_e (by decide))).trans h'.2⟩)
    exact h'.1
