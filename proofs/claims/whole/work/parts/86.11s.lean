theorem fr_uGI {e : Nat} {f : Nat → Int32} {A : MA} : frE e A (uGI A f) := ⟨fun _ _ => ⟨⟨Eq.refl _, Eq.refl _⟩, ⟨Eq.refl _, Eq.refl _⟩, ⟨Eq.refl _, Eq.refl _⟩, Eq.refl _⟩, Eq.refl _⟩
theorem kS_1 {A : MA} {S : St} {gi : Nat → Int32} (h : RSe A 1 S) : RSe (uGI A gi) 1 S := by
  obtain ⟨h1, h2, h3, ⟨k1, k2, k3, k4⟩⟩ := h
  exact ⟨h1, h2, h3, ⟨k1, k2, k3, fun z => absurd z (by decide)⟩⟩
theorem m_ck_4 (A : MA) (q : Nat → Int32) : gI (m_ck A q) 4 = gI A 4 := rfl
theorem RS_up0 {A A' : MA} {S S' : St} (h : RS A S) (h' : RSe A' 0 S' ∧ frS 0 S S') (hf : frE 0 A A') (hP : ∀ r, r / 2 ≠ 0 → aP A' r = aP A r) (hg : gI A' 4 = gI A 4) (hT : gT A' = gT A) : RS A' S' := by
  obtain ⟨⟨g1, g2⟩, ⟨t1, t2⟩, r0, r1⟩ := h
  have c : ∀ x i, x < 3 ∨ x = 52 ∨ x = 53 → S' x i = S x i := fun x i hx => h'.2 x i (by rw [ow_g hx]; omega)
  refine ⟨⟨by rw [c 1 0 (by decide), hg]; exact g1, by rw [c 2 0 (by decide), hf.2]; exact g2⟩, ⟨?_, ?_⟩, h'.1, ?_⟩
  · rw [hT]
    unfold tgS at *
    rw [c 53 0 (by decide), c 52 0 (by decide)]
    exact t1
  · rw [hT]
    unfold tgS at *
    rw [c 53 1 (by decide), c 52 1 (by decide)]
    exact t2
  · have : RSe (uGI A' (gI A)) 1 S' := RSe_o r1 (by decide) (by decide) (hf.trans fr_uGI) hP rfl h'.2
    have := kS_1 (A := uGI A' (gI A)) (gi := gI A') this
    exact this
theorem S_iack {A : MA} {S : St} (h : RS A S) (hb : bP A) {p o : Nat} (hp : p < 2) (ho : o < 36) {q : Pkt} (hq : pkS q S o) (hk : q.1 1 = 1) : sat (f_End_takeInitAck 0 (I p) o (I (gN A 0)) S) (fun S' => RS (if q.1 0 = aI A 0 1 ∧ aI A 0 0 = 1 then m_iack A p q.1 else A) S' ∧ frS 0 S S') := by
  obtain ⟨q1, q2, q3, q4, q5, q6, q7⟩ := hq
  have hst : S cEnd_state 0 0 = aI A 0 0 := sr_state (h.e (by decide))
  have hown : S cEnd_ownTag 0 0 = aI A 0 1 := sr_own (h.e (by decide))
  have q2' : S cPacket_tag o 0 = q.1 0 := q2
  have q3' : S cPacket_newTag o 0 = q.1 2 := q3 (Or.inr hk)
  unfold f_End_takeInitAck
  rw [hst, hown, q2', q3']
  by_cases c1 : aI A 0 0 = 1
  · rw [if_pos c1]
    by_cases c2 : q.1 0 = aI A 0 1
    · rw [if_pos c2]
      simp only [if_pos (show q.1 0 = aI A 0 1 ∧ aI A 0 0 = 1 from ⟨c2, c1⟩)]
      have h1 := ss_other (h.e (e := 0) (by decide)) (v := q.1 2)
      have h2 := ss_ck h1 ho (q := q.1) (ckS_cg (q4 (Or.inl hk)) (fun x a b => up3_ob (by omega)))
      have h3 := ss_due (ss_tries (ss_state h2 (v := 2) (by decide)) (v := 1)) (v := gN A 0 + 3)
      unfold f_End_startTries
      rw [show (3 : Int32) = I 3 from rfl, I_add]
      have i0 : aI (sN (sN (sI (m_ck (sI A 0 2 (q.1 2)) q.1) 0 0 2) 0 0 1) 0 1 (gN A 0 + 3)) 0 0 = 2 := by
        show up2 (up2 (aI A) 0 2 (q.1 2)) 0 0 2 0 0 = 2
        exact up2_eq
      refine .bd (S_opening h3 (by decide) (p := p) hp (by rw [Nat.mul_zero, Nat.zero_add]; exact hb p (by omega)) (Or.inr rfl)) (fun S' h' => .some ?_)
      have hf : frS 0 S S' := frS.trans (((((frS.rfl.up (ow_e (by decide))).trans (fun x i hx => ccp_fr (by
        by_cases z : (3 ≤ x ∧ x ≤ 6) ∧ i = 36
        · obtain ⟨z1, rfl⟩ := z
          exact absurd (by unfold ownr; rw [if_pos z1, if_neg (by decide)]) hx
        · omega))).up (ow_e (by decide))).up (ow_e (by decide))).up (ow_e (by decide))) h'.2
      refine ⟨?_, hf⟩
      have h4 := h'.1
      unfold m_opP at h4
      rw [if_neg (by rw [i0]; decide), Nat.mul_zero, Nat.zero_add] at h4
      unfold m_iack m_tries
      dsimp only
      rw [m_post_gN, m_post_sN, m_post_sN]
      refine RS_up0 h ⟨h4, hf⟩ ?_ (fun r hr => by rw [m_post_aP (by omega)]; rfl) (by rw [m_post_gI]; exact m_ck_4 _ _) (by rw [m_post_gT]; rfl)
      exact .trans (.trans (.trans (.trans (.trans fr_sI fr_uGI) fr_sI) fr_sN) fr_sN) fr_post
    · rw [if_neg c2]
      simp only [if_neg (show ¬ (q.1 0 = aI A 0 1 ∧ aI A 0 0 = 1) from fun z => c2 z.1)]
      exact .some ⟨h, frS.rfl⟩
  · rw [if_neg c1]
    simp only [if_neg (show ¬ (q.1 0 = aI A 0 1 ∧ aI A 0 0 = 1) from fun z => c1 z.2)]
    exact .some ⟨h, frS.rfl⟩
theorem S_eack {A : MA} {S : St} (h : RS A S) {o : Nat} {q : Pkt} (hq : pkS q S o) (hH : ∀ k n, 544 ≤ n → aH A 0 k n = false) : sat (f_End_takeEchoAck 0 o S) (fun S' => RS (if q.1 0 = aI A 0 1 ∧ aI A 0 0 = 2 then m_comeUp A 0 (aI A 0 1) (aI A 0 2) else A) S' ∧ frS 0 S S') := by
  obtain ⟨q1, q2, q3, q4, q5, q6, q7⟩ := hq
  have hst : S cEnd_state 0 0 = aI A 0 0 := sr_state (h.e (by decide))
  have hown : S cEnd_ownTag 0 0 = aI A 0 1 := sr_own (h.e (by decide))
  have q2' : S cPacket_tag o 0 = q.1 0 := q2
  unfold f_End_takeEchoAck
  rw [hst, hown, q2']
  by_cases c1 : aI A 0 0 = 2
  · rw [if_pos c1]
    by_cases c2 : q.1 0 = aI A 0 1
    · rw [if_pos c2]
      simp only [if_pos (show q.1 0 = aI A 0 1 ∧ aI A 0 0 = 2 from ⟨c2, c1⟩)]
      exact .bd (S_comeUp (h.e (e := 0) (by decide)) (by decide) hH rfl rfl) (fun S' h' => .some ⟨RS_up h (by decide) h' fr_comeUp (fun r hr => rfl) rfl rfl, h'.2⟩)
    · rw [if_neg c2]
      simp only [if_neg (show ¬ (q.1 0 = aI A 0 1 ∧ aI A 0 0 = 2) from fun z => c2 z.1)]
      exact .some ⟨h, frS.rfl⟩
  · rw [if_neg c1]
    simp only [if_neg (show ¬ (q.1 0 = aI A 0 1 ∧ aI A 0 0 = 2) from fun z => c1 z.2)]
    exact .some ⟨h, frS.rfl⟩
theorem S_gen {A : MA} {S : St} (h : RS A S) {o : Nat} {q : Pkt} (hq : pkS q S o) (hk : q.1 1 = 2) : (S 27 o 0 = S 4 o 0 ∧ ¬ f_L_isGenuine 0 o S = 0) ↔ m_right A q.1 = true := by
  obtain ⟨q1, q2, q3, q4, q5, q6, q7⟩ := hq
  obtain ⟨k1, k2, k3, k4⟩ := q4 (Or.inr hk)
  have k1' : S cCookie_clientTag o 0 = q.1 3 := k1
  have k2' : S cCookie_serverTag o 0 = q.1 4 := k2
  have k3' : S cCookie_tick o 0 = q.1 5 := k3
  have k4' : S cCookie_seal o 0 = q.1 6 := k4
  have hn : S cL_now 0 0 = I (gN A 0) := h.1.2
  have k2'' : S 4 o 0 = q.1 4 := k2
  unfold f_L_isGenuine f_L_isGenuine_75 m_right
  rw [k1', k2', k3', k4', hn, S_seal h.1.1, S_tagFor h.1.1, q2, decide_eq_true_iff]
  constructor
  · rintro ⟨z0, z⟩
    by_cases c1 : q.1 6 = kSeal (gI A 4) (q.1 3) (q.1 4) (q.1 5)
    · rw [if_pos c1] at z
      by_cases c2 : q.1 3 = 0
      · rw [if_pos c2] at z; exact absurd rfl z
      · rw [if_neg c2] at z
        by_cases c3 : q.1 4 = kTag (gI A 4) (q.1 3)
        · rw [if_pos c3] at z
          by_cases c4 : lg_cmp (Int32.toInt64 (I (gN A 0)) - Int32.toInt64 (q.1 5)) (Int64.ofNat 0) < 0
          · rw [if_pos c4] at z; exact absurd rfl z
          · rw [if_neg c4] at z
            by_cases c5 : 0 < lg_cmp (Int32.toInt64 (I (gN A 0)) - Int32.toInt64 (q.1 5)) (Int32.toInt64 20)
            · rw [if_pos c5] at z; exact absurd rfl z
            · exact ⟨c1, c2, c3, z0, c4, c5⟩
        · rw [if_neg c3] at z; exact absurd rfl z
    · rw [if_neg c1] at z; exact absurd rfl z
  · rintro ⟨c1, c2, c3, c0, c4, c5⟩
    refine ⟨c0, ?_⟩
    rw [if_pos c1, if_neg c2, if_pos c3, if_neg c4, if_neg c5]
    decide
theorem S_echo2 {A : MA} {S : St} (h : RS A S) (hb : bP A) {p o : Nat} (hp : p < 2) {q : Pkt} (hq : pkS q S o) (hk : q.1 1 = 2) : sat (f_L_answerEcho_78 (I p) o 1 S) (fun S' => RS (m_echo2 A p q.1) S' ∧ frS 1 S S') := by
  obtain ⟨q1, q2, q3, q4, q5, q6, q7⟩ := hq
  obtain ⟨k1, k2, k3, k4⟩ := q4 (Or.inr hk)
  have k1' : S cCookie_clientTag o 0 = q.1 3 := k1
  have k2' : S cCookie_serverTag o 0 = q.1 4 := k2
  have hown : S cEnd_ownTag 1 0 = aI A 1 1 := sr_own (h.e (by decide))
  have hoth : S cEnd_otherTag 1 0 = aI A 1 2 := sr_other (h.e (by decide))
  unfold f_L_answerEcho_78 m_echo2
  rw [hown, hoth, k1', k2']
  by_cases c1 : aI A 1 1 = q.1 4
  · rw [if_pos c1]
    by_cases c2 : aI A 1 2 = q.1 3
    · rw [if_pos c2]
      simp only [if_pos (show aI A 1 1 = q.1 4 ∧ aI A 1 2 = q.1 3 from ⟨c1, c2⟩)]
      obtain ⟨o', S1, e1, ⟨o1, o2⟩, e2, e3, e4, e5, e6⟩ := S_post (h.e (e := 1) (by decide)) (by decide) hp (hb _ (by omega)) (k := 3)
      rw [e1]
      have r := e6 (pkt (aI A 1 2) 3 0 0 0 0 0) S1 (fun x i _ => rfl) (fun _ => pk_plain e2 e3 (Or.inl rfl))
      exact .some ⟨RS_up h (by decide) r fr_post (fun r hr => by rw [m_post_aP (by omega)]) (by rw [m_post_gI]) (by rw [m_post_gT]), r.2⟩
    · rw [if_neg c2]
      simp only [if_neg (show ¬ (aI A 1 1 = q.1 4 ∧ aI A 1 2 = q.1 3) from fun z => c2 z.2)]
      exact .some ⟨h, frS.rfl⟩
  · rw [if_neg c1]
    simp only [if_neg (show ¬ (aI A 1 1 = q.1 4 ∧ aI A 1 2 = q.1 3) from fun z => c1 z.1)]
    exact .some ⟨h, frS.rfl⟩
/-- cells of packets of end 0 stay when end 1 acts; tags may grow -/
def frT (S S' : St) : Prop := ∀ x i, ownr x i ≠ 1 → x ≠ 52 → x ≠ 53 → S' x i = S x i
theorem S_echo {A : MA} {S : St} (h : RS A S) (hb : bP A) (hn : (gT A 1).length < 512) (hH : ∀ k n, 544 ≤ n → aH A 1 k n = false) {p o : Nat} (hp : p < 2) (ho : o < 18) {q : Pkt} (hq : pkS q S o) (hk : q.1 1 = 2) : sat (f_L_answerEcho 0 (I p) o S) (fun S' => RS (m_echo A p q.1) S' ∧ frT S S') := by
  have hg := S_gen h hq hk
  have h27 : S cPacket_tag o 0 = S 27 o 0 := rfl
  have h4 : S cCookie_serverTag o 0 = S 4 o 0 := rfl
  have hst : S cEnd_state 1 0 = aI A 1 0 := sr_state (h.e (by decide))
  obtain ⟨q1, q2, q3, q4, q5, q6, q7⟩ := id hq
  obtain ⟨k1, k2, k3, k4⟩ := q4 (Or.inr hk)
  have k2' : S 4 o 0 = q.1 4 := k2
  have toT : ∀ {S1 S2 : St}, frS 1 S1 S2 → frT S1 S2 := fun hf x i hx _ _ => hf x i hx
  have own0 : ∀ x, pcd x → ownr x o ≠ 1 := fun x hx => by
    rw [ow_pk hx (r := o / 9) (by omega) (by omega) (by omega)]
    omega
  unfold f_L_answerEcho m_echo
  rw [h27, h4]
  by_cases c1 : S 27 o 0 = S 4 o 0
  · rw [if_pos c1]
    by_cases c2 : f_L_isGenuine 0 o S = 0
    · rw [if_pos c2]
      simp only [if_neg (fun z => (hg.mpr z).2 c2 : ¬ m_right A q.1 = true)]
      exact .some ⟨h, fun _ _ _ _ _ => rfl⟩
    · rw [if_neg c2, if_pos (by decide), show ix (1 : Int32) = 1 by decide, hst]
      simp only [if_pos (hg.mp ⟨c1, c2⟩)]
      unfold m_echo1
      by_cases c3 : aI A 1 0 = 0
      · rw [if_pos c3, k2']
        refine .bd2 (S_tagadd h.2.1.2 hn) (fun r S1 hr => ?_)
        rcases hr with ⟨hm, hx⟩ | ⟨hm, hx⟩
        · cases hx
          rw [if_pos rfl]
          simp only [if_neg (show ¬ (aI A 1 0 = 0 ∧ q.1 4 ∉ gT A 1) from fun z => z.2 hm)]
          exact (S_echo2 h hb hp hq hk).imp (fun S' h' => ⟨h'.1, toT h'.2⟩)
        · cases hx
          rw [if_neg (by decide)]
          simp only [if_pos (show aI A 1 0 = 0 ∧ q.1 4 ∉ gT A 1 from ⟨c3, hm⟩)]
          have h1 := RS_tag h (i := 1) (by decide) (t := q.1 4)
          have f1 : frT S (up3 (up3 S 52 1 (gT A 1).length (q.1 4)) 53 1 0 (I ((gT A 1).length + 1))) := fun x i _ a b => by rw [up3_code b, up3_code a]
          generalize up3 (up3 S 52 1 (gT A 1).length (q.1 4)) 53 1 0 (I ((gT A 1).length + 1)) = S1 at *
          have hc4 : S1 cCookie_serverTag o 0 = q.1 4 := by
            rw [f1 4 o (own0 4 (by unfold pcd; omega)) (by decide) (by decide)]; exact k2
          have hc3 : S1 cCookie_clientTag o 0 = q.1 3 := by
            rw [f1 3 o (own0 3 (by unfold pcd; omega)) (by decide) (by decide)]; exact k1
          rw [hc4, hc3]
          have h2 := ss_other (ss_own (h1.e (e := 1) (by decide)) (v := q.1 4)) (v := q.1 3)
          refine .bd (S_comeUp h2 (by decide) hH (o := q.1 4) (t := q.1 3) ?_ ?_) (fun S3 h3 => ?_)
          · show up2 (up2 (aI A) 1 1 (q.1 4)) 1 2 (q.1 3) 1 1 = q.1 4
            rw [up2_ne2 (by decide), up2_eq]
          · show up2 (up2 (aI A) 1 1 (q.1 4)) 1 2 (q.1 3) 1 2 = q.1 3
            rw [up2_eq]
          · have f3 : frS 1 S1 S3 := ((frS.rfl.up (ow_e (by decide))).up (ow_e (by decide))).trans h3.2
            have em : m_comeUp (sI (sI (uGT A (up1 (gT A) 1 (gT A 1 ++ [q.1 4]))) 1 1 (q.1 4)) 1 2 (q.1 3)) 1 (q.1 4) (q.1 3) = m_comeUp (uGT A (up1 (gT A) 1 (gT A 1 ++ [q.1 4]))) 1 (q.1 4) (q.1 3) := by
              have : up2 (up2 (up2 (up2 (up2 (aI A) 1 1 (q.1 4)) 1 2 (q.1 3)) 1 0 3) 1 1 (q.1 4)) 1 2 (q.1 3) = up2 (up2 (up2 (aI A) 1 0 3) 1 1 (q.1 4)) 1 2 (q.1 3) := by
                funext x y
                unfold up2
                by_cases a2 : x = 1 ∧ y = 2
                · simp only [if_pos a2]
                · by_cases a1 : x = 1 ∧ y = 1
                  · simp only [if_neg a2, if_pos a1]
                  · by_cases a0 : x = 1 ∧ y = 0
                    · simp only [if_neg a2, if_neg a1, if_pos a0]
                    · simp only [if_neg a2, if_neg a1, if_neg a0]
              show m_empty (uI (uGT A (up1 (gT A) 1 (gT A 1 ++ [q.1 4]))) (up2 (up2 (up2 (up2 (up2 (aI A) 1 1 (q.1 4)) 1 2 (q.1 3)) 1 0 3) 1 1 (q.1 4)) 1 2 (q.1 3))) 1 = m_empty (uI (uGT A (up1 (gT A) 1 (gT A 1 ++ [q.1 4]))) (up2 (up2 (up2 (aI A) 1 0 3) 1 1 (q.1 4)) 1 2 (q.1 3))) 1
              rw [this]
            have h4 : RS (m_comeUp (uGT A (up1 (gT A) 1 (gT A 1 ++ [q.1 4]))) 1 (q.1 4) (q.1 3)) S3 := by
              rw [em] at h3
              exact RS_up h1 (by decide) ⟨h3.1, f3⟩ fr_comeUp (fun r hr => rfl) rfl rfl
            have f4 : frT S S3 := fun x i a b c => (f3 x i a).trans (f1 x i a b c)
            refine (S_echo2 h4 hb hp (pkS_cg hq (fun x hx => f4 x o (own0 x hx) (by unfold pcd at hx; omega) (by unfold pcd at hx; omega))) hk).imp (fun S' h' => ⟨h'.1, fun x i a b c => (h'.2 x i a).trans (f4 x i a b c)⟩)
      · rw [if_neg c3]
        simp only [if_neg (show ¬ (aI A 1 0 = 0 ∧ q.1 4 ∉ gT A 1) from fun z => c3 z.1)]
        exact (S_echo2 h hb hp hq hk).imp (fun S' h' => ⟨h'.1, toT h'.2⟩)
  · rw [if_neg c1]
    simp only [if_neg (fun z => c1 (hg.mpr z).1 : ¬ m_right A q.1 = true)]
    exact .some ⟨h, fun _ _ _ _ _ => rfl⟩
