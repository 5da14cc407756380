def dS (A : MA) (e : Nat) (q : Pkt) : Prop := bO A e ∧ aN A e 22 = aN A e 3 ∧ (∀ k n, 544 ≤ n → aH A e k n = false) ∧ (q.1 1 = 4 → q.2.1 < 5000 ∧ aN A e 5 ≤ 511 ∧ (¬ m_drop A e q.2.1 = true → gOK A e q.2.1 q.2.2) ∧ bP (m_get A e q.2.1 q.2.2) ∧ aN (m_get A e q.2.1 q.2.2) e 5 ≤ 527) ∧ (q.1 1 = 5 → q.1 2 = I q.2.1 ∧ q.2.1 < 5000 ∧ (aN A e 3 ≤ q.2.1 → q.2.1 ≤ aN A e 4 → ∀ p, p < 2 → cOut (m_strk (m_rew (m_rew (m_sack1 A e q.2.1 (q.1 3) (q.1 4)) e 0 (m_good A e q.2.1 (q.1 3) 0)) e 1 (m_good A e q.2.1 (q.1 3) 1)) e (topB (q.1 3) 16)) e p ≠ 0 → aB (m_strk (m_rew (m_rew (m_sack1 A e q.2.1 (q.1 3) (q.1 4)) e 0 (m_good A e q.2.1 (q.1 3) 0)) e 1 (m_good A e q.2.1 (q.1 3) 1)) e (topB (q.1 3) 16)) e (2 + p) = true))
theorem S_hear {A : MA} {e p o : Nat} {S : St} {q : Pkt} (h : RSe A e S) (he : e < 2) (h3 : aI A e 0 = 3) (hp : p < 2) (hbp : bP A) (ho : o < 36) (hno : ∀ x, pcd x → ownr x o ≠ e) (hq : pkS q S o) (hd : dS A e q) : sat (f_End_takeWhenUp e (I p) o (I (gN A 0)) S) (fun S' => RSe (m_hear A e p q) e S' ∧ frS e S S') := by
  obtain ⟨d1, d2, d3, d4, d5⟩ := hd
  obtain ⟨q1, q2, q3, q4, q5, q6, q7⟩ := hq
  have q1' : S cPacket_kind o 0 = q.1 1 := q1
  unfold f_End_takeWhenUp m_hear
  rw [q1']
  by_cases k4 : q.1 1 = 4
  · rw [if_pos k4]
    simp only [if_pos k4]
    obtain ⟨c1, c2, c3, c4, c5⟩ := d4 k4
    exact .bd (S_data h he hp ho (q5 k4) c1 c2 c3 c4 c5) (fun S' h' => .some h')
  · rw [if_neg k4]
    simp only [if_neg k4]
    by_cases k5 : q.1 1 = 5
    · rw [if_pos k5]
      simp only [if_pos k5]
      obtain ⟨c1, c2, c3⟩ := d5 k5
      obtain ⟨y1, y2, y3⟩ := q6 k5
      refine .bd (S_sack h he h3 hbp d1 d2 c2 (hno 29 (by unfold pcd; omega)) (hno 30 (by unfold pcd; omega)) (hno 31 (by unfold pcd; omega)) (by rw [y1]; exact c1) y2 y3 c3) (fun S' h' => .some h')
    · rw [if_neg k5]
      simp only [if_neg k5]
      by_cases k6 : q.1 1 = 6
      · rw [if_pos k6]
        simp only [if_pos k6]
        obtain ⟨o', S1, e1, ⟨o1, o2⟩, e2, e3, e4, e5, e6⟩ := S_post h he hp (hbp _ (by omega)) (k := 7)
        have ht : S1 cPacket_tick o 0 = q.1 2 := by
          rw [e5 32 o (by decide) (by decide) (by decide)]
          exact q7 (Or.inl k6)
        rw [e1]
        show sat (some (up3 S1 cPacket_tick o' 0 (S1 cPacket_tick o 0))) _
        rw [ht]
        have r := e6 (pkt (aI A e 2) 7 (q.1 2) 0 0 0 0) (up3 S1 32 o' 0 (q.1 2)) (fun x i hx => up3_ob (by unfold pcd at hx; omega)) (fun _ => by
          refine ⟨?_, ?_, fun z => ?_, fun z => ?_, fun z => ?_, fun z => ?_, fun _ => ?_⟩
          · rw [up3_code (by decide)]; exact e2
          · rw [up3_code (by decide)]; exact e3
          · exact absurd z (by show ¬ ((7 : Int32) = 0 ∨ (7 : Int32) = 1); decide)
          · exact absurd z (by show ¬ ((7 : Int32) = 1 ∨ (7 : Int32) = 2); decide)
          · exact absurd z (by show ¬ ((7 : Int32) = 4); decide)
          · exact absurd z (by show ¬ ((7 : Int32) = 5); decide)
          · rw [up3_at, if_pos rfl]; rfl)
        exact .some r
      · rw [if_neg k6]
        simp only [if_neg k6]
        by_cases k7 : q.1 1 = 7
        · rw [if_pos k7]
          simp only [if_pos k7]
          have ht : S cPacket_tick o 0 = q.1 2 := q7 (Or.inr k7)
          have hps := (h.1.2 h3).2 p hp
          have hbo : S cPath_beatOpen (2 * e + p) 0 = b01 (aB A e (4 + p)) := hps.2.2.2.1
          unfold f_End_takeBeatAck m_beatAck
          rw [inbT hp (by decide), if_pos rfl, I_ix (by omega), ht, hbo, b01_nz]
          cases hB : aB A e (4 + p) with
          | false =>
            rw [if_pos (by decide)]
            simp only [Bool.false_eq_true, false_and, if_false]
            exact .some ⟨h, frS.rfl⟩
          | true =>
            have hbt : S cPath_beatTick (2 * e + p) 0 = aI A e (8 + p) := hps.2.2.2.2 hB
            rw [if_neg (by decide), hbt]
            by_cases hz : aI A e (8 + p) = q.1 2
            · rw [if_pos hz]
              rw [if_pos (show true = true ∧ aI A e (8 + p) = q.1 2 from ⟨rfl, hz⟩)]
              refine .some ⟨?_, (((frS.rfl.up (ow_p (by decide) hp)).up (ow_p (by decide) hp)).up (ow_p (by decide) hp)).up (ow_e (by decide))⟩
              have iI : ∀ i, i ≠ 6 + p → i ≠ 4 → aI (sI (sI (sB (sB A e (4 + p) false) e p true) e (6 + p) 0) e 4 0) e i = aI A e i := fun i a d => by
                show up2 (up2 (aI A) e (6 + p) 0) e 4 0 e i = _
                rw [up2_ne2 d, up2_ne2 a]
              have i6 : aI (sI (sI (sB (sB A e (4 + p) false) e p true) e (6 + p) 0) e 4 0) e (6 + p) = 0 := by
                show up2 (up2 (aI A) e (6 + p) 0) e 4 0 e (6 + p) = _
                rw [up2_ne2 (by omega), up2_eq]
              have i4 : aI (sI (sI (sB (sB A e (4 + p) false) e p true) e (6 + p) 0) e 4 0) e 4 = 0 := up2_eq
              have bB : ∀ i, i ≠ p → i ≠ 4 + p → aB (sI (sI (sB (sB A e (4 + p) false) e p true) e (6 + p) 0) e 4 0) e i = aB A e i := fun i a d => by
                show up2 (up2 (aB A) e (4 + p) false) e p true e i = _
                rw [up2_ne2 a, up2_ne2 d]
              have b0 : aB (sI (sI (sB (sB A e (4 + p) false) e p true) e (6 + p) 0) e 4 0) e p = true := up2_eq
              have b4 : aB (sI (sI (sB (sB A e (4 + p) false) e p true) e (6 + p) 0) e 4 0) e (4 + p) = false := by
                show up2 (up2 (aB A) e (4 + p) false) e p true e (4 + p) = _
                rw [up2_ne2 (by omega), up2_eq]
              refine RSx_P h hp ?_ rfl (iI 5 (by omega) (by decide)) (fun r hr hne => ⟨⟨rfl, rfl, rfl⟩, ⟨iI _ (by omega) (by omega), iI _ (by omega) (by omega)⟩, bB _ (by omega) (by omega), bB _ (by omega) (by omega), bB _ (by omega) (by omega)⟩) (fun x i a d => ?_) (fun _ _ => ?_) (fun _ hps2 => ?_)
              · exact .trans (.trans (.trans eqX_B eqX_B) (eqX_I (by omega))) (eqX_I (by omega))
              · rw [up3_code a, up3_ob (c := 35) (by omega), up3_ob (c := 36) (by omega), up3_ob (c := 39) (by omega)]
              · rw [up3_at, if_pos rfl, i4]
              · obtain ⟨⟨p1, p2, p3⟩, p4, ⟨p5, p6⟩, p7, p8⟩ := hps2
                unfold pS
                rw [i6, b0, b4, bB (2 + p) (by omega) (by omega), iI (8 + p) (by omega) (by omega)]
                refine ⟨⟨?_, ?_, ?_⟩, ?_, ⟨?_, fun z => ?_⟩, ?_, fun z => by cases z⟩
                · rw [up3_code (by decide), up3_code (by decide), up3_code (by decide), up3_code (by decide)]; exact p1
                · rw [up3_code (by decide), up3_code (by decide), up3_code (by decide), up3_code (by decide)]; exact p2
                · rw [up3_code (by decide), up3_at, if_pos rfl]
                · rw [up3_code (by decide), up3_code (by decide), up3_at, if_pos rfl]; rfl
                · rw [up3_code (by decide), up3_code (by decide), up3_code (by decide), up3_code (by decide)]; exact p5
                · rw [up3_code (by decide), up3_code (by decide), up3_code (by decide), up3_code (by decide)]; exact p6 z
                · rw [up3_code (by decide), up3_code (by decide), up3_code (by decide), up3_at, if_pos rfl]; rfl
            · rw [if_neg hz]
              rw [if_neg (show ¬ (true = true ∧ aI A e (8 + p) = q.1 2) from fun z => hz z.2)]
              exact .some ⟨h, frS.rfl⟩
        · rw [if_neg k7]
          simp only [if_neg k7]
          by_cases k8 : q.1 1 = 8
          · rw [if_pos k8]
            simp only [if_pos k8]
            exact .bd (S_close h he d3) (fun S' h' => .some h')
          · rw [if_neg k8]
            simp only [if_neg k8]
            exact .some ⟨h, frS.rfl⟩
theorem S_dlv {A : MA} {S : St} (h : RS A S) (hbp : bP A) {e p : Nat} (he : e < 2) (hp : p < 2) {q : Pkt} {l : List Pkt} (hl : aP A (2 * e + p) = q :: l) (hn : (gT A 1).length < 512) (hH : ∀ x, x < 2 → ∀ k n, 544 ≤ n → aH A x k n = false) (hk : q.1 1 = 0 ∨ q.1 1 = 1 ∨ q.1 1 = 2 ∨ q.1 1 = 3 ∨ q.1 1 = 4 ∨ q.1 1 = 5 ∨ q.1 1 = 6 ∨ q.1 1 = 7 ∨ q.1 1 = 8) (hd : q.1 0 = aI A (1 - e) 1 → aI A (1 - e) 0 = 3 → 3 < q.1 1 → dS (m_take A (2 * e + p)) (1 - e) q ∧ frE (1 - e) (m_take A (2 * e + p)) (m_hear (m_take A (2 * e + p)) (1 - e) p q) ∧ (∀ r, r / 2 ≠ 1 - e → aP (m_hear (m_take A (2 * e + p)) (1 - e) p q) r = aP (m_take A (2 * e + p)) r) ∧ gI (m_hear (m_take A (2 * e + p)) (1 - e) p q) = gI A ∧ gT (m_hear (m_take A (2 * e + p)) (1 - e) p q) = gT A) : sat (f_L_deliver 0 (I e) (I p) S) (fun x => x.1 = q.1 1 ∧ RS (m_dlv (m_take A (2 * e + p)) (1 - e) p q) x.2) := by
  have hR : 2 * e + p < 4 := by omega
  have hlen := hbp _ hR
  obtain ⟨a, ha, r1, r2, r3⟩ := sr_row (h.e he) hp
  have r2' : S cRow_count (2 * e + p) 0 = I (aP A (2 * e + p)).length := r2
  obtain ⟨o, t1, ⟨t2, t3⟩, t4, t5, t6, t7, t8⟩ := S_take (h.e he) he hp hlen hl
  have ho : o < 36 := by omega
  have hown : ∀ x, pcd x → ownr x o = e := fun x hx => by
    rw [ow_pk hx (r := 2 * e + p) (by omega) (by omega) hR]
    omega
  have hRS : RS (m_take A (2 * e + p)) (f_Row_removeOldest (2 * e + p) S) := RS_up h he ⟨t5, t6⟩ fr_uP (fun r hr => up1_ne (by omega)) rfl rfl
  have hbp1 : bP (m_take A (2 * e + p)) := by
    intro r hr
    show (up1 (aP A) (2 * e + p) (aP A (2 * e + p)).tail r).length ≤ 8
    by_cases hz : r = 2 * e + p
    · subst hz
      rw [up1_eq, hl]
      rw [hl] at hlen
      simp at hlen ⊢
      omega
    · rw [up1_ne hz]
      exact hbp r hr
  have hHB : ∀ x, x < 2 → ∀ k n, 544 ≤ n → aH (m_take A (2 * e + p)) x k n = false := hH
  have hnB : (gT (m_take A (2 * e + p)) 1).length < 512 := hn
  have hgI : gI (m_take A (2 * e + p)) = gI A := rfl
  have hgT : gT (m_take A (2 * e + p)) = gT A := rfl
  have haI : aI (m_take A (2 * e + p)) = aI A := rfl
  rw [← haI, ← hgI, ← hgT] at hd
  unfold f_L_deliver
  rw [if_neg (isEnd_I he), if_neg (isPath_I hp), inbT he (by decide), if_pos rfl, inbT hp (by decide), if_pos rfl, I_ix (by omega), I_ix (by omega), r2', if_neg (fun z => by
    have := (I_eq (b := 0) (by omega) (by decide)).mp z
    rw [hl] at this
    simp at this), t1, bdS]
  have e1 : (1 : Int32) - I e = I (1 - e) := I_sub (a := 1) (by omega)
  rw [e1, inbT (show 1 - e < 2 by omega) (by decide), if_pos rfl, I_ix (by omega)]
  generalize f_Row_removeOldest (2 * e + p) S = S1 at *
  generalize m_take A (2 * e + p) = B at *
  have q1 : S1 cPacket_kind o 0 = q.1 1 := t4.1
  have q2 : S1 cPacket_tag o 0 = q.1 0 := t4.2.1
  have hst : S1 cEnd_state (1 - e) 0 = aI B (1 - e) 0 := sr_state (hRS.e (by omega))
  have hot : S1 cEnd_ownTag (1 - e) 0 = aI B (1 - e) 1 := sr_own (hRS.e (by omega))
  have hnow : S1 cL_now 0 0 = I (gN B 0) := hRS.1.2
  rw [q1, q2, hst, hot, hnow]
  -- the answer is the packet's kind, whatever was done at the other end
  have ans : ∀ (S2 : St) (C : MA), RS C S2 → S2 26 o = S1 26 o → sat (f_L_deliver_119 o S2) (fun x => x.1 = q.1 1 ∧ RS C x.2) := by
    intro S2 C hC hf
    unfold f_L_deliver_119
    refine .some ⟨?_, hC⟩
    show S2 26 o 0 = _
    rw [hf]
    exact t4.1
  have nown : ∀ x, pcd x → ownr x o ≠ 1 - e := fun x hx => by rw [hown x hx]; omega
  have isone : (I (1 - e) = 1) ↔ 1 - e = 1 := I_eq (b := 1) (by omega) (by decide)
  have iszero : (I (1 - e) = 0) ↔ 1 - e = 0 := I_eq (b := 0) (by omega) (by decide)
  unfold m_dlv
  by_cases h3 : (3 : Int32) < q.1 1
  · have c0 : ¬ q.1 1 = 0 := fun z => by rw [z] at h3; exact absurd h3 (by decide)
    have c1 : ¬ q.1 1 = 1 := fun z => by rw [z] at h3; exact absurd h3 (by decide)
    have c2 : ¬ q.1 1 = 2 := fun z => by rw [z] at h3; exact absurd h3 (by decide)
    have c3 : ¬ q.1 1 = 3 := fun z => by rw [z] at h3; exact absurd h3 (by decide)
    rw [if_pos h3]
    simp only [if_neg c0, if_neg c2, if_neg (show ¬ (q.1 0 = aI B (1 - e) 1 ∧ q.1 1 = 1) from fun z => c1 z.2), if_neg (show ¬ (q.1 0 = aI B (1 - e) 1 ∧ q.1 1 = 3) from fun z => c3 z.2)]
    by_cases s3 : aI B (1 - e) 0 = 3
    · rw [if_pos s3]
      by_cases tg : q.1 0 = aI B (1 - e) 1
      · rw [if_pos tg]
        simp only [if_pos (show q.1 0 = aI B (1 - e) 1 ∧ aI B (1 - e) 0 = 3 from ⟨tg, s3⟩)]
        obtain ⟨hd1, hd2, hd3, hd4, hd5⟩ := hd tg s3 h3
        refine .bd (S_hear (hRS.e (by omega)) (by omega) s3 hp hbp1 ho nown t4 hd1) (fun S2 h2 => ?_)
        exact ans S2 _ (RS_up hRS (by omega) h2 hd2 hd3 hd4 hd5) (h2.2 26 o (nown 26 (by unfold pcd; omega)))
      · rw [if_neg tg]
        simp only [if_neg (show ¬ (q.1 0 = aI B (1 - e) 1 ∧ aI B (1 - e) 0 = 3) from fun z => tg z.1)]
        exact ans S1 _ hRS rfl
    · rw [if_neg s3]
      simp only [if_neg (show ¬ (q.1 0 = aI B (1 - e) 1 ∧ aI B (1 - e) 0 = 3) from fun z => s3 z.2)]
      exact ans S1 _ hRS rfl
  · rw [if_neg h3]
    have hk' : q.1 1 = 0 ∨ q.1 1 = 1 ∨ q.1 1 = 2 ∨ q.1 1 = 3 := by
      rcases hk with z | z | z | z | z | z | z | z | z
      · exact Or.inl z
      · exact Or.inr (Or.inl z)
      · exact Or.inr (Or.inr (Or.inl z))
      · exact Or.inr (Or.inr (Or.inr z))
      all_goals (rw [z] at h3; exact absurd (by decide) h3)
    unfold f_L_takeMaking f_L_takeMaking_24 f_L_takeMaking_54 f_L_takeMaking_76
    rw [q1]
    rcases hk' with c | c | c | c
    · simp only [if_pos c]
      have n1 : ¬ q.1 1 = 1 := by rw [c]; decide
      have n2 : ¬ q.1 1 = 2 := by rw [c]; decide
      have n3 : ¬ q.1 1 = 3 := by rw [c]; decide
      simp only [if_neg n1, if_neg n2, if_neg n3]
      have hnt : S1 cPacket_newTag o 0 = q.1 2 := t4.2.2.1 (Or.inl c)
      by_cases ce : 1 - e = 1
      · rw [if_pos (isone.mpr ce), hnt]
        by_cases cz : q.1 2 = 0
        · rw [if_neg (show ¬ (1 - e = 1 ∧ q.1 2 ≠ 0) from fun z => z.2 cz)]
          unfold f_L_answerInit
          rw [if_pos cz]
          exact ans S1 _ hRS rfl
        · rw [if_pos (show 1 - e = 1 ∧ q.1 2 ≠ 0 from ⟨ce, cz⟩)]
          have hi := S_init hRS hbp1 hp cz
          obtain ⟨S2, z1, z2⟩ := hi
          rw [z1]
          exact ans S2 _ z2.1 (z2.2 26 o (by rw [← ce]; exact nown 26 (by unfold pcd; omega)))
      · rw [if_neg (show ¬ I (1 - e) = 1 from fun z => ce (isone.mp z)), if_neg (show ¬ (1 - e = 1 ∧ q.1 2 ≠ 0) from fun z => ce z.1)]
        exact ans S1 _ hRS rfl
    · have n0 : ¬ q.1 1 = 0 := by rw [c]; decide
      have n2 : ¬ q.1 1 = 2 := by rw [c]; decide
      have n3 : ¬ q.1 1 = 3 := by rw [c]; decide
      simp only [if_neg n0, if_pos c, if_neg n2, if_neg n3]
      have mB : ¬ q.1 0 = aI B (1 - e) 1 → (if q.1 0 = aI B (1 - e) 1 ∧ q.1 1 = 1 then (if 1 - e = 0 ∧ aI B 0 0 = 1 then m_iack B p q.1 else B) else if q.1 0 = aI B (1 - e) 1 ∧ q.1 1 = 3 then (if 1 - e = 0 ∧ aI B 0 0 = 2 then m_comeUp B 0 (aI B 0 1) (aI B 0 2) else B) else if q.1 0 = aI B (1 - e) 1 ∧ aI B (1 - e) 0 = 3 then m_hear B (1 - e) p q else B) = B := fun tg => by
        rw [if_neg (fun z => tg z.1), if_neg (fun z => tg z.1), if_neg (fun z => tg z.1)]
      by_cases ce : 1 - e = 0
      · rw [if_pos (iszero.mpr ce), if_pos (by decide), show ix (0 : Int32) = 0 by decide, hnow]
        obtain ⟨S2, z1, z2⟩ := S_iack hRS hbp1 hp ho t4 c
        rw [z1]
        have hz : RS (if q.1 0 = aI B (1 - e) 1 ∧ q.1 1 = 1 then (if 1 - e = 0 ∧ aI B 0 0 = 1 then m_iack B p q.1 else B) else if q.1 0 = aI B (1 - e) 1 ∧ q.1 1 = 3 then (if 1 - e = 0 ∧ aI B 0 0 = 2 then m_comeUp B 0 (aI B 0 1) (aI B 0 2) else B) else if q.1 0 = aI B (1 - e) 1 ∧ aI B (1 - e) 0 = 3 then m_hear B (1 - e) p q else B) S2 := by
          have z21 := z2.1
          by_cases tg : q.1 0 = aI B (1 - e) 1
          · have tg0 : q.1 0 = aI B 0 1 := by rw [ce] at tg; exact tg
            rw [if_pos (show q.1 0 = aI B (1 - e) 1 ∧ q.1 1 = 1 from ⟨tg, c⟩)]
            by_cases s1 : aI B 0 0 = 1
            · rw [if_pos (show 1 - e = 0 ∧ aI B 0 0 = 1 from ⟨ce, s1⟩)]
              rw [if_pos ⟨tg0, s1⟩] at z21
              exact z21
            · rw [if_neg (show ¬ (1 - e = 0 ∧ aI B 0 0 = 1) from fun z => s1 z.2)]
              rw [if_neg (fun z => s1 z.2)] at z21
              exact z21
          · have tg0 : ¬ q.1 0 = aI B 0 1 := by rw [ce] at tg; exact tg
            rw [mB tg]
            rw [if_neg (fun z => tg0 z.1)] at z21
            exact z21
        exact ans S2 _ hz (z2.2 26 o (by rw [← ce]; exact nown 26 (by unfold pcd; omega)))
      · rw [if_neg (show ¬ I (1 - e) = 0 from fun z => ce (iszero.mp z))]
        have hz : (if q.1 0 = aI B (1 - e) 1 ∧ q.1 1 = 1 then (if 1 - e = 0 ∧ aI B 0 0 = 1 then m_iack B p q.1 else B) else if q.1 0 = aI B (1 - e) 1 ∧ q.1 1 = 3 then (if 1 - e = 0 ∧ aI B 0 0 = 2 then m_comeUp B 0 (aI B 0 1) (aI B 0 2) else B) else if q.1 0 = aI B (1 - e) 1 ∧ aI B (1 - e) 0 = 3 then m_hear B (1 - e) p q else B) = B := by
          by_cases tg : q.1 0 = aI B (1 - e) 1
          · rw [if_pos (show q.1 0 = aI B (1 - e) 1 ∧ q.1 1 = 1 from ⟨tg, c⟩), if_neg (show ¬ (1 - e = 0 ∧ aI B 0 0 = 1) from fun z => ce z.1)]
          · exact mB tg
        rw [hz]
        exact ans S1 _ hRS rfl
    · have n0 : ¬ q.1 1 = 0 := by rw [c]; decide
      have n1 : ¬ q.1 1 = 1 := by rw [c]; decide
      have n3 : ¬ q.1 1 = 3 := by rw [c]; decide
      simp only [if_neg n0, if_pos c, if_neg n1, if_neg n3]
      by_cases ce : 1 - e = 1
      · rw [if_pos (isone.mpr ce)]
        simp only [if_pos ce]
        obtain ⟨S2, z1, z2⟩ := S_echo hRS hbp1 hnB (hHB 1 (by decide)) hp (o := o) (by omega) t4 c
        rw [z1]
        exact ans S2 _ z2.1 (z2.2 26 o (by rw [← ce]; exact nown 26 (by unfold pcd; omega)) (by decide) (by decide))
      · rw [if_neg (show ¬ I (1 - e) = 1 from fun z => ce (isone.mp z))]
        simp only [if_neg ce]
        exact ans S1 _ hRS rfl
    · have n0 : ¬ q.1 1 = 0 := by rw [c]; decide
      have n1 : ¬ q.1 1 = 1 := by rw [c]; decide
      have n2 : ¬ q.1 1 = 2 := by rw [c]; decide
      simp only [if_neg n0, if_pos c, if_neg n1, if_neg n2]
      have mB : ¬ q.1 0 = aI B (1 - e) 1 → (if q.1 0 = aI B (1 - e) 1 ∧ q.1 1 = 1 then (if 1 - e = 0 ∧ aI B 0 0 = 1 then m_iack B p q.1 else B) else if q.1 0 = aI B (1 - e) 1 ∧ q.1 1 = 3 then (if 1 - e = 0 ∧ aI B 0 0 = 2 then m_comeUp B 0 (aI B 0 1) (aI B 0 2) else B) else if q.1 0 = aI B (1 - e) 1 ∧ aI B (1 - e) 0 = 3 then m_hear B (1 - e) p q else B) = B := fun tg => by
        rw [if_neg (fun z => tg z.1), if_neg (fun z => tg z.1), if_neg (fun z => tg z.1)]
      have mT : q.1 0 = aI B (1 - e) 1 → (if q.1 0 = aI B (1 - e) 1 ∧ q.1 1 = 1 then (if 1 - e = 0 ∧ aI B 0 0 = 1 then m_iack B p q.1 else B) else if q.1 0 = aI B (1 - e) 1 ∧ q.1 1 = 3 then (if 1 - e = 0 ∧ aI B 0 0 = 2 then m_comeUp B 0 (aI B 0 1) (aI B 0 2) else B) else if q.1 0 = aI B (1 - e) 1 ∧ aI B (1 - e) 0 = 3 then m_hear B (1 - e) p q else B) = (if 1 - e = 0 ∧ aI B 0 0 = 2 then m_comeUp B 0 (aI B 0 1) (aI B 0 2) else B) := fun tg => by
        rw [if_neg (fun z => n1 z.2), if_pos (show q.1 0 = aI B (1 - e) 1 ∧ q.1 1 = 3 from ⟨tg, c⟩)]
      by_cases ce : 1 - e = 0
      · rw [if_pos (iszero.mpr ce), if_pos (by decide), show ix (0 : Int32) = 0 by decide]
        obtain ⟨S2, z1, z2⟩ := S_eack hRS t4 (hHB 0 (by decide))
        rw [z1]
        have hz : RS (if q.1 0 = aI B (1 - e) 1 ∧ q.1 1 = 1 then (if 1 - e = 0 ∧ aI B 0 0 = 1 then m_iack B p q.1 else B) else if q.1 0 = aI B (1 - e) 1 ∧ q.1 1 = 3 then (if 1 - e = 0 ∧ aI B 0 0 = 2 then m_comeUp B 0 (aI B 0 1) (aI B 0 2) else B) else if q.1 0 = aI B (1 - e) 1 ∧ aI B (1 - e) 0 = 3 then m_hear B (1 - e) p q else B) S2 := by
          have z21 := z2.1
          by_cases tg : q.1 0 = aI B (1 - e) 1
          · have tg0 : q.1 0 = aI B 0 1 := by rw [ce] at tg; exact tg
            rw [mT tg]
            by_cases s1 : aI B 0 0 = 2
            · rw [if_pos (show 1 - e = 0 ∧ aI B 0 0 = 2 from ⟨ce, s1⟩)]
              rw [if_pos ⟨tg0, s1⟩] at z21
              exact z21
            · rw [if_neg (show ¬ (1 - e = 0 ∧ aI B 0 0 = 2) from fun z => s1 z.2)]
              rw [if_neg (fun z => s1 z.2)] at z21
              exact z21
          · have tg0 : ¬ q.1 0 = aI B 0 1 := by rw [ce] at tg; exact tg
            rw [mB tg]
            rw [if_neg (fun z => tg0 z.1)] at z21
            exact z21
        exact ans S2 _ hz (z2.2 26 o (by rw [← ce]; exact nown 26 (by unfold pcd; omega)))
      · rw [if_neg (show ¬ I (1 - e) = 0 from fun z => ce (iszero.mp z))]
        have hz : (if q.1 0 = aI B (1 - e) 1 ∧ q.1 1 = 1 then (if 1 - e = 0 ∧ aI B 0 0 = 1 then m_iack B p q.1 else B) else if q.1 0 = aI B (1 - e) 1 ∧ q.1 1 = 3 then (if 1 - e = 0 ∧ aI B 0 0 = 2 then m_comeUp B 0 (aI B 0 1) (aI B 0 2) else B) else if q.1 0 = aI B (1 - e) 1 ∧ aI B (1 - e) 0 = 3 then m_hear B (1 - e) p q else B) = B := by
          by_cases tg : q.1 0 = aI B (1 - e) 1
          · rw [mT tg, if_neg (show ¬ (1 - e = 0 ∧ aI B 0 0 = 2) from fun z => ce z.1)]
          · exact mB tg
        rw [hz]
        exact ans S1 _ hRS rfl
