theorem ss_tOff {A : MA} {e p : Nat} {S : St} (h : RSe A e S) (hp : p < 2) : RSe (sB A e (2 + p) false) e (up3 S 37 (2 * e + p) 0 0) := by
  refine ss_path h hp eqX_B rfl rfl rfl (fun q hq hne => ⟨⟨rfl, rfl, rfl⟩, ⟨rfl, rfl⟩, up2_ne2 (by omega), up2_ne2 (by omega), up2_ne2 (by omega)⟩) (fun x i hx => up3_ob (by omega)) (fun _ hps => ?_)
  obtain ⟨⟨p1, p2, p3⟩, p4, ⟨p5, p6⟩, p7, p8⟩ := hps
  have b0 : aB (sB A e (2 + p) false) e p = aB A e p := up2_ne2 (by omega)
  have b2 : aB (sB A e (2 + p) false) e (2 + p) = false := up2_eq
  have b4 : aB (sB A e (2 + p) false) e (4 + p) = aB A e (4 + p) := up2_ne2 (by omega)
  unfold pS
  rw [b0, b2, b4]
  refine ⟨⟨?_, ?_, ?_⟩, ?_, ⟨?_, fun z => by cases z⟩, ?_, fun z => ?_⟩
  · rw [up3_code (by decide)]; exact p1
  · rw [up3_code (by decide)]; exact p2
  · rw [up3_code (by decide)]; exact p3
  · rw [up3_code (by decide)]; exact p4
  · rw [up3_at, if_pos rfl]; rfl
  · rw [up3_code (by decide)]; exact p7
  · rw [up3_code (by decide)]; exact p8 z
theorem sB_same (A : MA) (e i : Nat) : sB A e i (aB A e i) = A := by
  obtain ⟨a, b, c, r⟩ := A
  show (a, b, up2 c e i (c e i), r) = _
  congr 3
  funext x y
  unfold up2
  split
  · rename_i h; obtain ⟨rfl, rfl⟩ := h; rfl
  · rfl
theorem cOut_set1 {A : MA} {e p q : Nat} {b : Bool} : cOut (m_set1 A e p b) e q = cOut A e q := by
  unfold m_set1
  split
  · rfl
  · cases b with
    | false => rfl
    | true =>
      unfold cOut m_len
      have k : ∀ i, i < 11 → aN (sN A e (11 + p) (gN A 0 + aN A e (9 + p))) e i = aN A e i := fun i hi => up2_ne2 (by omega)
      dsimp only
      rw [k 3 (by decide), k 4 (by decide)]
theorem S_settle {A : MA} {e : Nat} {S : St} {b : Nat → Bool} (h : RSe A e S) (h3 : aI A e 0 = 3) (hb : bO A e) (hg : gdS S e b) (hR : ∀ p, p < 2 → cOut A e p ≠ 0 → aB A e (2 + p) = true) : sat (f_End_settleTimers e (I (gN A 0)) S) (fun S' => RSe (m_set1 (m_set1 A e 0 (b 0)) e 1 (b 1)) e S' ∧ frS e S S') := by
  unfold f_End_settleTimers f_End_settleTimers_2
  have one : ∀ (B : MA) (S1 : St) (p : Nat), p < 2 → RSe B e S1 → frS e S S1 → gdS S1 e b → aI B e 0 = 3 → bO B e → gN B = gN A → (cOut B e p ≠ 0 → aB B e (2 + p) = true) → sat (f_End_settleTimers_2_b e (I (gN A 0)) (I p, S1)) (Sum.elim (fun x => x.1 = I (p + 1) ∧ RSe (m_set1 B e p (b p)) e x.2 ∧ frS e S x.2 ∧ gdS x.2 e b) (fun _ => False)) := by
    intro B S1 p hp q1 q2 q3 q4 q5 q6 q7
    have hgp : S1 cPath_good (2 * e + p) 0 = b01 (b p) := q3 p hp
    have hco := cOut_le q5 (p := p)
    have hz : (I (cOut B e p) = 0) ↔ cOut B e p = 0 := I_eq (b := 0) (by omega) (by decide)
    unfold f_End_settleTimers_2_b f_End_settleTimers_53 m_set1
    dsimp only
    rw [if_pos (show I p < 2 from (I_lt (b := 2) (by omega) (by decide)).mpr hp), S_cout q1 hp q5, bdS, inbT hp (by decide), I_ix (by omega), hgp, b01_nz]
    by_cases h0 : cOut B e p = 0
    · rw [if_pos (hz.mpr h0), if_pos rfl, if_pos h0]
      refine .some ⟨I_add p 1, ss_tOff q1 hp, q2.up (ow_p (by decide) hp), fun q hq => ?_⟩
      dsimp only
      rw [up3_code (by decide)]
      exact q3 q hq
    · rw [if_neg (fun z => h0 (hz.mp z)), if_pos rfl, if_neg h0]
      cases hbp : b p with
      | false =>
        rw [if_pos (by decide)]
        exact .some ⟨I_add p 1, q1, q2, q3⟩
      | true =>
        rw [if_neg (by decide), if_pos rfl]
        unfold f_Path_startTimer
        have hw : S1 cPath_wait (2 * e + p) 0 = I (aN B e (9 + p)) := ((q1.1.2 q4).2 p hp).1.2.1
        rw [hw, I_add, show gN A 0 = gN B 0 by rw [q6]]
        refine .some ⟨I_add p 1, ?_, (q2.up (ow_p (by decide) hp)).up (ow_p (by decide) hp), fun q hq => ?_⟩
        · have := ss_tOn q1 hp (t := gN B 0 + aN B e (9 + p))
          have hs : sB B e (2 + p) true = B := by
            have := sB_same B e (2 + p)
            rw [q7 h0] at this
            exact this
          rw [hs] at this
          exact this
        · dsimp only
          rw [up3_code (by decide), up3_code (by decide)]
          exact q3 q hq
  have hs1 : ∀ B p c, aI (m_set1 B e p c) = aI B ∧ gN (m_set1 B e p c) = gN B := by
    intro B p c
    unfold m_set1
    split
    · exact ⟨rfl, rfl⟩
    · cases c <;> exact ⟨rfl, rfl⟩
  have hB1 : cOut (m_set1 A e 0 (b 0)) e 1 ≠ 0 → aB (m_set1 A e 0 (b 0)) e (2 + 1) = true := by
    intro hz
    rw [cOut_set1] at hz
    have := hR 1 (by decide) hz
    unfold m_set1
    split
    · show up2 (aB A) e (2 + 0) false e (2 + 1) = true
      rw [up2_ne2 (by decide)]
      exact this
    · cases b 0 <;> exact this
  refine sat_upP (fun i x => x.1 = I i ∧ RSe (match i with | 0 => A | 1 => m_set1 A e 0 (b 0) | _ => m_set1 (m_set1 A e 0 (b 0)) e 1 (b 1)) e x.2 ∧ frS e S x.2 ∧ gdS x.2 e b) 2 (fun i x hi hx => ?_) (fun x hx => ?_) ⟨rfl, (show RSe A e S from h), frS.rfl, hg⟩ (by decide)
  · obtain ⟨c, S1⟩ := x
    obtain ⟨rfl, q1, q2, q3⟩ := hx
    have : i = 0 ∨ i = 1 := by omega
    rcases this with rfl | rfl
    · exact one A S1 0 (by decide) q1 q2 q3 h3 hb rfl (hR 0 (by decide))
    · exact one _ S1 1 (by decide) q1 q2 q3 (by rw [(hs1 _ _ _).1]; exact h3) (m_set1_bO hb) (hs1 _ _ _).2 hB1
  · obtain ⟨c, S1⟩ := x
    obtain ⟨rfl, q1, q2, q3⟩ := hx
    unfold f_End_settleTimers_2_b
    dsimp only
    rw [if_neg (by decide)]
    exact .exW (.some ⟨q1, q2⟩)
theorem S_sack {A : MA} {e c o : Nat} {S : St} {g w : Int32} (h : RSe A e S) (he : e < 2) (h3 : aI A e 0 = 3) (hbp : bP A) (hb : bO A e) (hs : aN A e 22 = aN A e 3) (hc : c < 5000) (ho : ownr 29 o ≠ e) (ho2 : ownr 30 o ≠ e) (ho3 : ownr 31 o ≠ e) (p29 : S 29 o 0 = I c) (p30 : S 30 o 0 = g) (p31 : S 31 o 0 = w) (hR : aN A e 3 ≤ c → c ≤ aN A e 4 → ∀ p, p < 2 → cOut (m_strk (m_rew (m_rew (m_sack1 A e c g w) e 0 (m_good A e c g 0)) e 1 (m_good A e c g 1)) e (topB g 16)) e p ≠ 0 → aB (m_strk (m_rew (m_rew (m_sack1 A e c g w) e 0 (m_good A e c g 0)) e 1 (m_good A e c g 1)) e (topB g 16)) e (2 + p) = true) : sat (f_End_takeSack e o (I (gN A 0)) S) (fun S' => RSe (if c < aN A e 22 ∨ aN A e 4 < c then A else m_sack A e c g w) e S' ∧ frS e S S') := by
  obtain ⟨b1, b2, b3, b4, b5, b6, b7, b8⟩ := id hb
  have hf : S cOutbox_firstNumber e 0 = I (aN A e 3 + 1) := sr_first h
  have hx : S cOutbox_nextNumber e 0 = I (aN A e 4 + 1) := sr_next h
  have p29' : S cPacket_number o 0 = I c := p29
  unfold f_End_takeSack
  rw [p29', hf, hx, show I (aN A e 3 + 1) - 1 = I (aN A e 3) from I_sub (b := 1) (by omega)]
  by_cases h1 : c < aN A e 3
  · rw [if_pos ((I_lt (by omega) (by omega)).mpr h1)]
    simp only [if_pos (Or.inl (by omega) : c < aN A e 22 ∨ aN A e 4 < c)]
    exact .some ⟨h, frS.rfl⟩
  · rw [if_neg (fun z => h1 ((I_lt (by omega) (by omega)).mp z))]
    by_cases h2 : aN A e 4 < c
    · rw [if_neg (fun z => by have := (I_lt (by omega) (by omega)).mp z; omega)]
      simp only [if_pos (Or.inr h2 : c < aN A e 22 ∨ aN A e 4 < c)]
      exact .some ⟨h, frS.rfl⟩
    · rw [if_pos ((I_lt (by omega) (by omega)).mpr (by omega))]
      simp only [if_neg (show ¬ (c < aN A e 22 ∨ aN A e 4 < c) from fun z => z.elim (fun z => by omega) h2)]
      unfold f_End_takeSack_33
      refine sat_upP (fun i x => x.1 = I i ∧ RSe A e x.2 ∧ frS e S x.2 ∧ ∀ p, p < i → x.2 41 (2 * e + p) 0 = 0) 2 (fun i x hi hx2 => ?_) (fun x hx2 => ?_) ⟨rfl, h, frS.rfl, fun p hp => absurd hp (by omega)⟩ (by decide)
      · obtain ⟨d, S1⟩ := x
        obtain ⟨rfl, q1, q2, q3⟩ := hx2
        unfold f_End_takeSack_33_b
        dsimp only
        rw [if_pos (show I i < 2 from (I_lt (b := 2) (by omega) (by decide)).mpr hi), inbT hi (by decide), if_pos rfl, I_ix (by omega)]
        refine .some ⟨I_add i 1, ss_good q1 hi, q2.up (ow_p (by decide) hi), fun p hp => ?_⟩
        dsimp only
        by_cases hz : p = i
        · subst hz
          rw [up3_at, if_pos rfl]
        · rw [up3_ob (c := 41) (by omega)]
          exact q3 p (by omega)
      · obtain ⟨d, S1⟩ := x
        obtain ⟨rfl, q1, q2, q3⟩ := hx2
        replace q1 : RSe A e S1 := q1
        replace q2 : frS e S S1 := q2
        replace q3 : ∀ p, p < 2 → S1 41 (2 * e + p) 0 = 0 := q3
        have pn : ∀ S2 : St, frS e S S2 → S2 cPacket_number o 0 = I c ∧ S2 cPacket_gaps o 0 = g ∧ S2 cPacket_window o 0 = w := fun S2 hf2 => ⟨by rw [hf2 29 o ho]; exact p29, by rw [hf2 30 o ho2]; exact p30, by rw [hf2 31 o ho3]; exact p31⟩
        unfold f_End_takeSack_33_b
        dsimp only
        rw [if_neg (by decide), (pn S1 q2).1]
        refine .exW ?_
        refine .bd (S_drop q1 hb (by omega) (by omega) q3) (fun S2 r2 => ?_)
        obtain ⟨⟨r2a, r2b⟩, r2c⟩ := r2
        have f2 := q2.trans r2b
        rw [(pn S2 f2).2.1]
        have nN : ∀ i, i ≠ 3 → aN (sN A e 3 c) e i = aN A e i := fun i hi => up2_ne2 hi
        have n3 : aN (sN A e 3 c) e 3 = c := up2_eq
        have hb2 : bO (sN A e 3 c) e := ⟨by rw [nN 2 (by decide)]; exact b1, by rw [n3, nN 4 (by decide)]; omega, by rw [n3, nN 4 (by decide)]; omega, by rw [nN 4 (by decide)]; exact b4, b5, b6, fun p hp => by rw [nN (7 + p) (by omega), nN (9 + p) (by omega)]; exact b7 p hp, b8⟩
        refine .bd (S_hold (g := g) r2a he hb2 r2c) (fun S3 r3 => ?_)
        obtain ⟨⟨r3a, r3b⟩, r3c⟩ := r3
        have f3 := f2.trans r3b
        rw [n3] at r3a r3c
        have hgood : ∀ p, (anyN (omF A e p) (aN A e 3) (c - aN A e 3) || anyN (goodF (sN A e 3 c) e c g p) c (m_len (sN A e 3 c) e)) = m_good A e c g p := by
          intro p
          have hl : m_len A e = (c - aN A e 3) + m_len (sN A e 3 c) e := by
            unfold m_len
            rw [n3, nN 4 (by decide)]
            omega
          have : m_good A e c g p = anyN (goodF A e c g p) (aN A e 3) (m_len A e) := rfl
          rw [this, hl, anyN_split, show aN A e 3 + (c - aN A e 3) = c by omega]
          congr 1
          refine anyN_cg _ (fun n p1 p2 => ?_)
          unfold omF goodF
          rw [m_ack_lt (by omega), Bool.true_and]
        have hgd : gdS S3 e (m_good A e c g) := fun p hp => by
          rw [r3c p hp]
          exact congrArg b01 (hgood p)
        have r4 : RSe (m_sack1 A e c g w) e (up3 S3 25 e 0 w) := by
          have := ss_window r3a (v := w)
          have h5 : eqX (sI (uO (sN A e 3 c) (fun x n => if x = e ∧ m_ack c g n = true ∧ isOM (sN A e 3 c) e n = true then (oWd (sN A e 3 c) e n, 4, oPa (sN A e 3 c) e n, oSk (sN A e 3 c) e n) else aO (sN A e 3 c) x n)) e 5 w) (sN (sI (uO (sN A e 3 c) (fun x n => if x = e ∧ m_ack c g n = true ∧ isOM (sN A e 3 c) e n = true then (oWd (sN A e 3 c) e n, 4, oPa (sN A e 3 c) e n, oSk (sN A e 3 c) e n) else aO (sN A e 3 c) x n)) e 5 w) e 22 c) e := eqX_N (by omega)
          have h6 := RSx_U this h5 (fun _ _ _ => rfl) (fun z => by
            refine uS_c (this.1.2 z) (up2_ne2 (by decide)) rfl rfl (fun p hp => ⟨⟨up2_ne2 (by omega), up2_ne2 (by omega), up2_ne2 (by omega)⟩, ⟨rfl, rfl⟩, rfl, rfl, rfl⟩) rfl rfl rfl (fun _ _ _ _ _ => rfl))
          have h7 : sN (sI (uO (sN A e 3 c) (fun x n => if x = e ∧ m_ack c g n = true ∧ isOM (sN A e 3 c) e n = true then (oWd (sN A e 3 c) e n, 4, oPa (sN A e 3 c) e n, oSk (sN A e 3 c) e n) else aO (sN A e 3 c) x n)) e 5 w) e 22 c = m_sack1 A e c g w := by
            have hz : up2 (up2 (aN A) e 3 c) e 22 c = up2 (up2 (aN A) e 22 c) e 3 c := by
              funext x y
              unfold up2
              by_cases a2 : x = e ∧ y = 22
              · by_cases a3 : x = e ∧ y = 3
                · simp only [if_pos a2, if_pos a3]
                · simp only [if_pos a2, if_neg a3]
              · simp only [if_neg a2]
            unfold m_sack1 m_hold
            show (_, up2 (up2 (aN A) e 3 c) e 22 c, _) = (_, up2 (up2 (aN A) e 22 c) e 3 c, _)
            rw [hz]
            rfl
          rw [h7] at h6
          exact h6
        rw [(pn S3 f3).2.2]
        have f4 : frS e S (up3 S3 25 e 0 w) := f3.up (ow_e (by decide))
        have g4 : gdS (up3 S3 25 e 0 w) e (m_good A e c g) := fun p hp => by
          rw [up3_code (by decide)]
          exact hgd p hp
        have hb4 : bO (m_sack1 A e c g w) e := sack1_bO hb (by omega) (by omega)
        have s4 : aI (m_sack1 A e c g w) e 0 = 3 := by
          show up2 (aI A) e 5 w e 0 = 3
          rw [up2_ne2 (by decide)]
          exact h3
        refine .bd (S_rew r4 s4 hb4 g4) (fun S5 r5 => ?_)
        obtain ⟨⟨r5a, r5b⟩, r5c⟩ := r5
        have f5 := f4.trans r5b
        rw [(pn S5 f5).2.1]
        have rI : ∀ B p b, aI B e 0 = 3 → aI (m_rew B e p b) e 0 = 3 := by
          intro B p b hz
          cases b with
          | false => exact hz
          | true =>
            show up2 (up2 (aI B) e (6 + p) 0) e 4 0 e 0 = 3
            rw [up2_ne2 (by decide), up2_ne2 (by omega)]
            exact hz
        have s5 := rI _ 1 (m_good A e c g 1) (rI _ 0 (m_good A e c g 0) s4)
        have hb5 : bO (m_rew (m_rew (m_sack1 A e c g w) e 0 (m_good A e c g 0)) e 1 (m_good A e c g 1)) e := m_rew_bO (by decide) (m_rew_bO (by decide) hb4)
        refine .bd (S_strk (g := g) r5a he s5 hb5) (fun S6 r6 => ?_)
        obtain ⟨⟨r6a, r6b⟩, r6c⟩ := r6
        have f6 := f5.trans r6b
        have s6 : aI (m_strk (m_rew (m_rew (m_sack1 A e c g w) e 0 (m_good A e c g 0)) e 1 (m_good A e c g 1)) e (topB g 16)) e 0 = 3 := by
          rw [(m_strk_I _).1]
          exact s5
        have g6 : gdS S6 e (m_good A e c g) := fun p hp => by
          rw [r6c]
          exact r5c p hp
        have hb6 := m_strk_bO hb5 (topB g 16)
        have gn6 : gN (m_strk (m_rew (m_rew (m_sack1 A e c g w) e 0 (m_good A e c g 0)) e 1 (m_good A e c g 1)) e (topB g 16)) = gN A := by
          have k1 : ∀ B n, gN (m_str1 B e n) = gN B := by
            intro B n
            unfold m_str1
            split
            · split <;> rfl
            · rfl
          have k2 : ∀ B k, gN (m_strk B e k) = gN B := by
            intro B k
            induction k with
            | zero => rfl
            | succ k ih => rw [m_strk, k1, ih]
          have k3 : ∀ B p b, gN (m_rew B e p b) = gN B := by
            intro B p b
            cases b <;> rfl
          rw [k2, k3, k3]
          rfl
        have hset := S_settle r6a s6 hb6 g6 (hR (by omega) (by omega))
        rw [gn6] at hset
        refine .bd hset (fun S7 r7 => ?_)
        have bp7 : bP (m_sack2 A e c g w) := by
          have k1 : ∀ B p b, aP (m_set1 B e p b) = aP B := by
            intro B p b
            unfold m_set1
            split
            · rfl
            · cases b <;> rfl
          have k2 : ∀ B n, aP (m_str1 B e n) = aP B := by
            intro B n
            unfold m_str1
            split
            · split <;> rfl
            · rfl
          have k3 : ∀ B k, aP (m_strk B e k) = aP B := by
            intro B k
            induction k with
            | zero => rfl
            | succ k ih => rw [m_strk, k2, ih]
          have k4 : ∀ B p b, aP (m_rew B e p b) = aP B := by
            intro B p b
            cases b <;> rfl
          intro r hr
          unfold m_sack2
          dsimp only
          rw [k1, k1, k3, k4, k4]
          exact hbp r hr
        have hb7 : bO (m_sack2 A e c g w) e := m_set1_bO (m_set1_bO hb6)
        have r7' : RSe (m_sack2 A e c g w) e S7 := r7.1
        have s7 : aI (m_sack2 A e c g w) e 0 = 3 := by
          have k1 : ∀ B p b, aI (m_set1 B e p b) = aI B := by
            intro B p b
            unfold m_set1
            split
            · rfl
            · cases b <;> rfl
          unfold m_sack2
          dsimp only
          rw [k1, k1]
          exact s6
        have gn7 : gN (m_sack2 A e c g w) = gN A := by
          have k1 : ∀ B p b, gN (m_set1 B e p b) = gN B := by
            intro B p b
            unfold m_set1
            split
            · rfl
            · cases b <;> rfl
          unfold m_sack2
          dsimp only
          rw [k1, k1]
          exact gn6
        have hsw := S_swm r7' he s7 bp7 hb7
        rw [gn7] at hsw
        refine .bd hsw (fun S8 r8 => .some ⟨?_, (f6.trans r7.2).trans r8.2⟩)
        unfold m_sack
        rw [sendAll_24 bp7 hb7]
        exact r8.1
