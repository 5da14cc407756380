theorem ow_sw {x e k : Nat} (hx : 49 ≤ x ∧ x ≤ 51) (hk : k < 24) : ownr x (24 * e + k) = e := by
  unfold ownr
  rw [if_neg (by omega), if_neg (by omega), if_neg (by omega), if_neg (by omega), if_neg (by omega), if_neg (by omega), if_pos hx]
  omega
theorem ow_sww {x e k : Nat} (hx : 54 ≤ x ∧ x ≤ 60) (hk : k < 24) (he : e < 2) : ownr x (24 * e + k + 36) = e := by
  unfold ownr
  rw [if_neg (by omega), if_neg (by omega), if_neg (by omega), if_neg (by omega), if_neg (by omega), if_neg (by omega), if_neg (by omega), if_pos hx, if_neg (by omega), if_pos (by omega)]
  omega
/-- one word to send is written anew -/
theorem RSx_O {A : MA} {e n : Nat} {S S' : St} (h : RSe A e S) (he : e < 2) (hl : aN A e 4 ≤ aN A e 3 + 24) (h1 : aN A e 3 < n) (h2 : n ≤ aN A e 4) {o : OW} (c : ∀ x i, (x < 49 ∨ 51 < x ∨ i ≠ 24 * e + n % 24) → S' x i = S x i) (ho : owS o n S' (24 * e + n % 24)) : RSe (uO A (up2 (aO A) e n o)) e S' := by
  obtain ⟨⟨g1, g2⟩, ⟨g3, g4, g5⟩, ⟨g6, g7⟩, g8⟩ := h
  refine ⟨⟨eS_c g1 eqE.rfl (fun x hx => c x e (by unfold ecd at hx; omega)), fun k => uS_c (g2 k) rfl rfl rfl (fun p _ => eqP_f rfl rfl rfl) (c 10 e (by omega)) (c 14 e (by omega)) (c 25 e (by omega)) (fun x q a b hq => c x _ (by omega))⟩, ⟨fun m a b => ?_, hS_c g4 rfl rfl rfl (c 18 e (by omega)) (fun x k a b hk => c x _ (by omega)), rS_c g5 (fun x a b => c x e (by omega))⟩, ⟨rwS_cg g6 (c 47 _ (by omega)) (c 48 _ (by omega)) (fun x hx i p q => c x i (by unfold pcd at hx; omega)), rwS_cg g7 (c 47 _ (by omega)) (c 48 _ (by omega)) (fun x hx i p q => c x i (by unfold pcd at hx; omega))⟩, kS_c g8 rfl rfl rfl (c 11 e (by omega)) (c 12 e (by omega)) (c 17 e (by omega)) (fun x a b => c x 36 (by omega))⟩
  have a' : aN A e 3 < m := a
  have b' : m ≤ aN A e 4 := b
  show owS (up2 (aO A) e n o e m) m S' (24 * e + m % 24)
  by_cases hz : m = n
  · subst hz
    rw [up2_eq]
    exact ho
  · rw [up2_ne2 hz]
    exact owS_cg (g3 m a' b') (fun x p q => c x _ (by omega)) (fun x p q => c x _ (by omega))
theorem ss_tOn {A : MA} {e p t : Nat} {S : St} (h : RSe A e S) (hp : p < 2) : RSe (sN (sB A e (2 + p) true) e (11 + p) t) e (up3 (up3 S 37 (2 * e + p) 0 1) 38 (2 * e + p) 0 (I t)) := by
  refine ss_path h hp (.trans eqX_B (eqX_N (by omega))) (up2_ne2 (by omega)) rfl rfl (fun q hq hne => ⟨⟨up2_ne2 (by omega), up2_ne2 (by omega), up2_ne2 (by omega)⟩, ⟨rfl, rfl⟩, up2_ne2 (by omega), up2_ne2 (by omega), up2_ne2 (by omega)⟩) (fun x i hx => by rw [up3_ob (by omega), up3_ob (by omega)]) (fun _ hps => ?_)
  obtain ⟨⟨p1, p2, p3⟩, p4, ⟨p5, p6⟩, p7, p8⟩ := hps
  have n7 : aN (sN (sB A e (2 + p) true) e (11 + p) t) e (7 + p) = aN A e (7 + p) := up2_ne2 (by omega)
  have n9 : aN (sN (sB A e (2 + p) true) e (11 + p) t) e (9 + p) = aN A e (9 + p) := up2_ne2 (by omega)
  have n11 : aN (sN (sB A e (2 + p) true) e (11 + p) t) e (11 + p) = t := up2_eq
  have b0 : aB (sN (sB A e (2 + p) true) e (11 + p) t) e p = aB A e p := up2_ne2 (by omega)
  have b2 : aB (sN (sB A e (2 + p) true) e (11 + p) t) e (2 + p) = true := up2_eq
  have b4 : aB (sN (sB A e (2 + p) true) e (11 + p) t) e (4 + p) = aB A e (4 + p) := up2_ne2 (by omega)
  unfold pS
  rw [n7, n9, n11, b0, b2, b4]
  refine ⟨⟨?_, ?_, ?_⟩, ?_, ⟨?_, fun _ => ?_⟩, ?_, fun z => ?_⟩
  · rw [up3_code (by decide), up3_code (by decide)]; exact p1
  · rw [up3_code (by decide), up3_code (by decide)]; exact p2
  · rw [up3_code (by decide), up3_code (by decide)]; exact p3
  · rw [up3_code (by decide), up3_code (by decide)]; exact p4
  · rw [up3_code (by decide), up3_at, if_pos rfl]; rfl
  · rw [up3_at, if_pos rfl]
  · rw [up3_code (by decide), up3_code (by decide)]; exact p7
  · rw [up3_code (by decide), up3_code (by decide)]; exact p8 z
theorem S_out {A : MA} {e n p : Nat} {S : St} (h : RSe A e S) (he : e < 2) (h3 : aI A e 0 = 3) (hbp : bP A) (hb : bO A e) (hp : p < 2) (h1 : aN A e 3 < n) (h2 : n ≤ aN A e 4) : sat (f_End_putOut e (24 * e + n % 24) (I p) (I (gN A 0)) S) (fun S' => RSe (m_out A e n p) e S' ∧ frS e S S') := by
  obtain ⟨o, S1, e1, ⟨o1, o2⟩, e2, e3, e4, e5, e6⟩ := S_post h he hp (hbp _ (by omega)) (k := 4)
  obtain ⟨⟨w1, w2, w3⟩, w4⟩ := sr_o h h1 h2
  obtain ⟨z1, z2⟩ := S_wcopy (S1 := S1) (u := o) w4 (by omega) (fun x a b => e5 x _ (by omega) (by omega) (by omega))
  obtain ⟨r1, r2⟩ := e6 (pdat (aI A e 2) n (oWd A e n)) (f_Word_copyFrom o (24 * e + n % 24 + 36) S1) (fun x i hx => z2 x i (by unfold pcd at hx; omega)) (fun _ => by
    refine ⟨?_, ?_, fun z => ?_, fun z => ?_, fun _ => z1, fun z => ?_, fun z => ?_⟩
    · rw [z2 26 o (by omega)]; exact e2
    · rw [z2 27 o (by omega)]; exact e3
    · exact absurd z (by show ¬ ((4 : Int32) = 0 ∨ (4 : Int32) = 1); decide)
    · exact absurd z (by show ¬ ((4 : Int32) = 1 ∨ (4 : Int32) = 2); decide)
    · exact absurd z (by show ¬ ((4 : Int32) = 5); decide)
    · exact absurd z (by show ¬ ((4 : Int32) = 6 ∨ (4 : Int32) = 7); decide))
  unfold f_End_putOut
  rw [e1]
  show sat (if inb (I p) 2 = true then _ else none) _
  rw [inbT hp (by decide), if_pos rfl, I_ix (by omega)]
  generalize hS2 : f_Word_copyFrom o (24 * e + n % 24 + 36) S1 = S2 at *
  have hN : aN (m_post A (2 * e + p) (pdat (aI A e 2) n (oWd A e n))) = aN A := m_post_aN _ _ _
  have hO : aO (m_post A (2 * e + p) (pdat (aI A e 2) n (oWd A e n))) = aO A := m_post_aO _ _ _
  have hB : aB (m_post A (2 * e + p) (pdat (aI A e 2) n (oWd A e n))) = aB A := m_post_aB _ _ _
  have hI : aI (m_post A (2 * e + p) (pdat (aI A e 2) n (oWd A e n))) = aI A := m_post_aI _ _ _
  have hg : gN (m_post A (2 * e + p) (pdat (aI A e 2) n (oWd A e n))) = gN A := m_post_gN _ _ _
  have hu := r1.1.2 (by rw [hI]; exact h3)
  have hrun : S2 cPath_timerRuns (2 * e + p) 0 = b01 (aB A e (2 + p)) := by
    have := (hu.2 p hp).2.2.1.1
    rw [hB] at this
    exact this
  have hw : S2 cPath_wait (2 * e + p) 0 = I (aN A e (9 + p)) := by
    have := (hu.2 p hp).1.2.1
    rw [hN] at this
    exact this
  rw [hrun, b01_nz]
  have hso : RSe (uO (m_post A (2 * e + p) (pdat (aI A e 2) n (oWd A e n))) (up2 (aO A) e n (oWd A e n, 2, p, 0))) e (up3 (up3 (up3 S2 49 (24 * e + n % 24) 0 2) 50 (24 * e + n % 24) 0 (I p)) 51 (24 * e + n % 24) 0 0) := by
    have hz := RSx_O r1 (n := n) (o := (oWd A e n, 2, p, 0)) (S' := up3 (up3 (up3 S2 49 (24 * e + n % 24) 0 2) 50 (24 * e + n % 24) 0 (I p)) 51 (24 * e + n % 24) 0 0) he (by rw [hN]; exact hb.2.2.1) (by rw [hN]; exact h1) (by rw [hN]; exact h2) (fun x i hx => by rw [up3_ob (by omega), up3_ob (by omega), up3_ob (by omega)]) (by
      refine ⟨⟨?_, ?_, ?_⟩, ?_⟩
      · rw [up3_code (by decide), up3_code (by decide), up3_at, if_pos rfl]
      · rw [up3_code (by decide), up3_at, if_pos rfl]
      · rw [up3_at, if_pos rfl]; rfl
      · have := (sr_o r1 (n := n) (by rw [hN]; exact h1) (by rw [hN]; exact h2)).2
        rw [hO] at this
        exact wrS_cg this (fun x a b => by rw [up3_ob (by omega), up3_ob (by omega), up3_ob (by omega)]))
    rw [hO] at hz
    exact hz
  have fso : frS e S (up3 (up3 (up3 S2 49 (24 * e + n % 24) 0 2) 50 (24 * e + n % 24) 0 (I p)) 51 (24 * e + n % 24) 0 0) := ((r2.up (ow_sw (by decide) (by omega))).up (ow_sw (by decide) (by omega))).up (ow_sw (by decide) (by omega))
  unfold m_out m_timer
  have hB2 : aB (uO (m_post A (2 * e + p) (pdat (aI A e 2) n (oWd A e n))) (up2 (aO A) e n (oWd A e n, 2, p, 0))) e (2 + p) = aB A e (2 + p) := by
    show aB (m_post A (2 * e + p) (pdat (aI A e 2) n (oWd A e n))) e (2 + p) = _
    rw [hB]
  rw [hB2]
  cases hr : aB A e (2 + p) with
  | true =>
    rw [if_neg (by decide), if_pos rfl]
    exact .some ⟨hso, fso⟩
  | false =>
    rw [if_pos (by decide), if_pos rfl, if_neg (by decide)]
    unfold f_Path_startTimer
    have hw2 : (up3 (up3 (up3 S2 cSentWord_state (24 * e + n % 24) 0 2) cSentWord_lastPath (24 * e + n % 24) 0 (I p)) cSentWord_strikes (24 * e + n % 24) 0 0) cPath_wait (2 * e + p) 0 = I (aN A e (9 + p)) := by
      rw [up3_code (by decide), up3_code (by decide), up3_code (by decide)]; exact hw
    rw [hw2, I_add]
    have hgn : gN (uO (m_post A (2 * e + p) (pdat (aI A e 2) n (oWd A e n))) (up2 (aO A) e n (oWd A e n, 2, p, 0))) 0 + aN (uO (m_post A (2 * e + p) (pdat (aI A e 2) n (oWd A e n))) (up2 (aO A) e n (oWd A e n, 2, p, 0))) e (9 + p) = gN A 0 + aN A e (9 + p) := by
      show gN (m_post A (2 * e + p) (pdat (aI A e 2) n (oWd A e n))) 0 + aN (m_post A (2 * e + p) (pdat (aI A e 2) n (oWd A e n))) e (9 + p) = _
      rw [hg, hN]
    rw [hgn]
    exact .some ⟨ss_tOn hso hp, (fso.up (ow_p (by decide) hp)).up (ow_p (by decide) hp)⟩
theorem m_out_I (A : MA) (e n p : Nat) : aI (m_out A e n p) = aI A := by
  unfold m_out m_timer
  split
  · exact m_post_aI _ _ _
  · exact m_post_aI _ _ _
theorem m_sendOne_I {A A' : MA} {e : Nat} (h : m_sendOne A e = some A') : aI A' = aI A ∧ gN A' = gN A := by
  refine ⟨?_, (fr_sendOne h).2⟩
  unfold m_sendOne at h
  split at h
  · cases h
  · split at h
    · cases h
      exact m_out_I _ _ _ _
    · cases h
theorem S_swm {A : MA} {e : Nat} {S : St} (h : RSe A e S) (he : e < 2) (h3 : aI A e 0 = 3) (hbp : bP A) (hb : bO A e) : sat (f_End_sendWhatItMay e (I (gN A 0)) S) (fun S' => RSe (m_sendAll e 24 A) e S' ∧ frS e S S') := by
  unfold f_End_sendWhatItMay f_End_sendWhatItMay_2
  refine sat_iter (fun j x => ∃ B, j ≤ 24 ∧ x.1 = I (24 - j) ∧ RSe B e x.2 ∧ frS e S x.2 ∧ (aI B e 0 = 3 ∧ gN B = gN A) ∧ bP B ∧ bO B e ∧ m_sendAll e j B = m_sendAll e 24 A) (P := fun S' => RSe (m_sendAll e 24 A) e S' ∧ frS e S S') ?_ (i := 24) (by decide) ⟨A, by decide, rfl, h, frS.rfl, ⟨h3, rfl⟩, hbp, hb, rfl⟩
  rintro j ⟨c, S1⟩ ⟨B, hj, hx, h1, hf, ⟨hs, hgB⟩, hbp1, hb1, hB⟩
  replace hx : c = I (24 - j) := hx
  replace h1 : RSe B e S1 := h1
  replace hf : frS e S S1 := hf
  subst hx
  unfold f_End_sendWhatItMay_2_b
  dsimp only
  cases j with
  | zero =>
    rw [if_neg (show ¬ I (24 - 0) < 24 by decide)]
    rw [m_sendAll] at hB
    rw [← hB]
    exact .exW (.some ⟨h1, hf⟩)
  | succ j =>
    rw [if_pos (show I (24 - (j + 1)) < 24 from (I_lt (b := 24) (by omega) (by decide)).mpr (by omega)), S_fst h1 hb1, bdS]
    have hlt := hb1.2.2.2.1
    have hle : m_fst B e ≤ aN B e 3 + m_len B e + 1 := fstN_le _ _ _
    have hgt : aN B e 3 < m_fst B e := fstN_gt _ _ _
    have hb2 := hb1.2.1
    unfold m_len at hle
    have hone : m_sendOne B e = if aN B e 4 < m_fst B e then none else if m_may B e (m_fst B e) (m_path B e (m_fst B e)) = true then some (m_out B e (m_fst B e) (m_path B e (m_fst B e))) else none := rfl
    rw [m_sendAll] at hB
    by_cases hn : aN B e 4 < m_fst B e
    · rw [if_pos hn, if_pos rfl]
      rw [hone, if_pos hn] at hB
      dsimp only at hB
      rw [← hB]
      exact .exW (.some ⟨h1, hf⟩)
    · rw [if_neg hn, if_neg (fun z => by
        have h0 : (I (m_fst B e)).toInt = m_fst B e := I_toInt (by omega)
        rw [z] at h0
        have h1 : (-1 : Int32).toInt = -1 := rfl
        omega), S_at (by omega), bdS]
      have hu := h1.1.2 hs
      have hts : isTS B e (m_fst B e) = true := fstN_is _ _ _ (by
        show m_fst B e ≤ aN B e 3 + (aN B e 4 - aN B e 3)
        omega)
      have hpl := m_path_lt (n := m_fst B e) hb1
      rw [S_pfor h1 hu hb1 hgt (by omega) hts, bdS, S_may h1 hu hb1 hpl hgt (by omega), bdS]
      rw [hone, if_neg hn] at hB
      by_cases hm : m_may B e (m_fst B e) (m_path B e (m_fst B e)) = true
      · rw [if_pos hm, if_neg (by decide)]
        rw [if_pos hm] at hB
        dsimp only at hB
        rw [show I (gN A 0) = I (gN B 0) by rw [hgB]]
        refine .bd (S_out h1 he hs hbp1 hb1 hpl hgt (by omega)) (fun S2 h2 => .some ?_)
        have hsome : m_sendOne B e = some (m_out B e (m_fst B e) (m_path B e (m_fst B e))) := by rw [hone, if_neg hn, if_pos hm]
        obtain ⟨x1, x2⟩ := m_sendOne_b hbp1 hb1 hsome
        obtain ⟨y1, y2⟩ := m_sendOne_I hsome
        refine ⟨j, by omega, _, by omega, ?_, h2.1, hf.trans h2.2, ⟨by rw [y1]; exact hs, y2.trans hgB⟩, x1, x2, hB⟩
        rw [show (1 : Int32) = I 1 from rfl, I_add]
        exact congrArg I (by omega)
      · rw [if_neg hm, if_pos rfl]
        rw [if_neg hm] at hB
        dsimp only at hB
        rw [← hB]
        exact .exW (.some ⟨h1, hf⟩)
