theorem S_rew {A : MA} {e : Nat} {S : St} {b : Nat → Bool} (h : RSe A e S) (h3 : aI A e 0 = 3) (hb : bO A e) (hg : gdS S e b) : sat (f_End_rewardGoodPaths e S) (fun S' => (RSe (m_rew (m_rew A e 0 (b 0)) e 1 (b 1)) e S' ∧ frS e S S') ∧ gdS S' e b) := by
  unfold f_End_rewardGoodPaths f_End_rewardGoodPaths_2
  have one : ∀ (B : MA) (S1 : St) (p : Nat), p < 2 → RSe B e S1 → frS e S S1 → gdS S1 e b → aI B e 0 = 3 → bO B e → sat (f_End_rewardGoodPaths_2_b e (I p, S1)) (Sum.elim (fun x => x.1 = I (p + 1) ∧ RSe (m_rew B e p (b p)) e x.2 ∧ frS e S x.2 ∧ gdS x.2 e b) (fun _ => False)) := by
    intro B S1 p hp q1 q2 q3 q4 q5
    have hgp : S1 cPath_good (2 * e + p) 0 = b01 (b p) := q3 p hp
    have hr8 := (q5.2.2.2.2.2.2.1 p hp).1
    unfold f_End_rewardGoodPaths_2_b f_End_rewardGoodPaths_33
    dsimp only
    rw [if_pos (show I p < 2 from (I_lt (b := 2) (by omega) (by decide)).mpr hp), inbT hp (by decide), if_pos rfl, I_ix (by omega), hgp, b01_nz]
    cases hbp : b p with
    | false =>
      rw [if_pos (by decide)]
      exact .some ⟨I_add p 1, q1, q2, q3⟩
    | true =>
      rw [if_neg (by decide), if_pos rfl]
      unfold f_Path_reward
      have hrt : S1 cPath_rate (2 * e + p) 0 = I (aN B e (7 + p)) := ((q1.1.2 q4).2 p hp).1.1
      rw [hrt, show I (aN B e (7 + p)) + 1 = I (aN B e (7 + p) + 1) from I_add _ 1, show f_Math_min 8 (I (aN B e (7 + p) + 1)) = I (min 8 (aN B e (7 + p) + 1)) from min_I (a := 8) (by decide) (by omega)]
      have iI : ∀ i, i ≠ 6 + p → i ≠ 4 → aI (m_rew B e p true) e i = aI B e i := fun i a d => by
        show up2 (up2 (aI B) e (6 + p) 0) e 4 0 e i = _
        rw [up2_ne2 d, up2_ne2 a]
      have i6 : aI (m_rew B e p true) e (6 + p) = 0 := by
        show up2 (up2 (aI B) e (6 + p) 0) e 4 0 e (6 + p) = _
        rw [up2_ne2 (by omega), up2_eq]
      have i4 : aI (m_rew B e p true) e 4 = 0 := up2_eq
      have nN : ∀ i, i ≠ 9 + p → i ≠ 7 + p → aN (m_rew B e p true) e i = aN B e i := fun i a d => by
        show up2 (up2 (aN B) e (9 + p) 3) e (7 + p) _ e i = _
        rw [up2_ne2 d, up2_ne2 a]
      have n9 : aN (m_rew B e p true) e (9 + p) = 3 := by
        show up2 (up2 (aN B) e (9 + p) 3) e (7 + p) _ e (9 + p) = _
        rw [up2_ne2 (by omega), up2_eq]
      have n7 : aN (m_rew B e p true) e (7 + p) = min 8 (aN B e (7 + p) + 1) := up2_eq
      have bB : ∀ i, i ≠ p → aB (m_rew B e p true) e i = aB B e i := fun i a => up2_ne2 a
      have b0 : aB (m_rew B e p true) e p = true := up2_eq
      refine .some ⟨I_add p 1, ?_, ((((q2.up (ow_p (by decide) hp)).up (ow_p (by decide) hp)).up (ow_p (by decide) hp)).up (ow_p (by decide) hp)).up (ow_e (by decide)), fun q hq => ?_⟩
      · refine RSx_P q1 hp ?_ (nN 2 (by omega) (by omega)) (iI 5 (by omega) (by decide)) (fun q hq hne => ⟨⟨nN _ (by omega) (by omega), nN _ (by omega) (by omega), nN _ (by omega) (by omega)⟩, ⟨iI _ (by omega) (by omega), iI _ (by omega) (by omega)⟩, bB _ (by omega), bB _ (by omega), bB _ (by omega)⟩) (fun x i a d => ?_) (fun _ _ => ?_) (fun _ hps => ?_)
        · exact .trans (.trans (.trans (.trans (eqX_I (by omega)) (eqX_I (by omega))) (eqX_N (by omega))) (eqX_N (by omega))) eqX_B
        · dsimp only
          rw [up3_code a, up3_ob (c := 36) (by omega), up3_ob (c := 33) (by omega), up3_ob (c := 34) (by omega), up3_ob (c := 35) (by omega)]
        · dsimp only
          rw [up3_at, if_pos rfl, i4]
        · obtain ⟨⟨p1, p2, p3⟩, p4, ⟨p5, p6⟩, p7, p8⟩ := hps
          unfold pS
          rw [n7, n9, i6, b0, bB (2 + p) (by omega), bB (4 + p) (by omega), nN (11 + p) (by omega) (by omega), iI (8 + p) (by omega) (by omega)]
          dsimp only
          refine ⟨⟨?_, ?_, ?_⟩, ?_, ⟨?_, fun z => ?_⟩, ?_, fun z => ?_⟩
          · rw [up3_code (by decide), up3_code (by decide), up3_at, if_pos rfl]
          · rw [up3_code (by decide), up3_code (by decide), up3_code (by decide), up3_at, if_pos rfl]; rfl
          · rw [up3_code (by decide), up3_code (by decide), up3_code (by decide), up3_code (by decide), up3_at, if_pos rfl]
          · rw [up3_code (by decide), up3_at, if_pos rfl]; rfl
          · rw [up3_code (by decide), up3_code (by decide), up3_code (by decide), up3_code (by decide), up3_code (by decide)]; exact p5
          · rw [up3_code (by decide), up3_code (by decide), up3_code (by decide), up3_code (by decide), up3_code (by decide)]; exact p6 z
          · rw [up3_code (by decide), up3_code (by decide), up3_code (by decide), up3_code (by decide), up3_code (by decide)]; exact p7
          · rw [up3_code (by decide), up3_code (by decide), up3_code (by decide), up3_code (by decide), up3_code (by decide)]; exact p8 z
      · dsimp only
        rw [up3_code (by decide), up3_code (by decide), up3_code (by decide), up3_code (by decide), up3_code (by decide)]
        exact q3 q hq
  have s1 : aI (m_rew A e 0 (b 0)) e 0 = 3 := by
    cases b 0
    · exact h3
    · show up2 (up2 (aI A) e (6 + 0) 0) e 4 0 e 0 = 3
      rw [up2_ne2 (by decide), up2_ne2 (by decide)]
      exact h3
  refine sat_upP (fun i x => x.1 = I i ∧ RSe (match i with | 0 => A | 1 => m_rew A e 0 (b 0) | _ => m_rew (m_rew A e 0 (b 0)) e 1 (b 1)) e x.2 ∧ frS e S x.2 ∧ gdS x.2 e b) 2 (fun i x hi hx => ?_) (fun x hx => ?_) ⟨rfl, (show RSe A e S from h), frS.rfl, hg⟩ (by decide)
  · obtain ⟨c, S1⟩ := x
    obtain ⟨rfl, q1, q2, q3⟩ := hx
    have : i = 0 ∨ i = 1 := by omega
    rcases this with rfl | rfl
    · exact one A S1 0 (by decide) q1 q2 q3 h3 hb
    · exact one _ S1 1 (by decide) q1 q2 q3 s1 (m_rew_bO (by decide) hb)
  · obtain ⟨c, S1⟩ := x
    obtain ⟨rfl, q1, q2, q3⟩ := hx
    unfold f_End_rewardGoodPaths_2_b
    dsimp only
    rw [if_neg (by decide)]
    exact .exW (.some ⟨⟨q1, q2⟩, q3⟩)
theorem m_str1_I {A : MA} {e n : Nat} : aI (m_str1 A e n) = aI A ∧ aB (m_str1 A e n) = aB A := by
  unfold m_str1
  split
  · split <;> exact ⟨rfl, rfl⟩
  · exact ⟨rfl, rfl⟩
theorem m_strk_I {A : MA} {e : Nat} : ∀ k, aI (m_strk A e k) = aI A ∧ aB (m_strk A e k) = aB A
  | 0 => ⟨rfl, rfl⟩
  | k + 1 => by
    rw [m_strk]
    exact ⟨m_str1_I.1.trans (m_strk_I k).1, m_str1_I.2.trans (m_strk_I k).2⟩
theorem S_str1 {A : MA} {e n : Nat} {S : St} (h : RSe A e S) (he : e < 2) (h3 : aI A e 0 = 3) (hb : bO A e) (h1 : aN A e 3 < n) (h2 : n ≤ aN A e 4) (hst : oSt A e n = 2) : sat (f_End_strike e (24 * e + n % 24) S) (fun S' => (RSe (m_str1 A e n) e S' ∧ frS e S S') ∧ S' 41 = S 41) := by
  obtain ⟨b1, b2, b3, b4, b5, b6, b7, b8⟩ := id hb
  obtain ⟨⟨o1, o2, o3⟩, o4⟩ := sr_o h h1 h2
  have o2' : S cSentWord_lastPath (24 * e + n % 24) 0 = I (oPa A e n) := o2
  have o3' : S cSentWord_strikes (24 * e + n % 24) 0 = I (oSk A e n) := o3
  have hpa := b5 n
  have hsk := b6 n
  have hr8 := (b7 _ hpa).1
  have hrt : S cPath_rate (2 * e + oPa A e n) 0 = I (aN A e (7 + oPa A e n)) := ((h.1.2 h3).2 _ hpa).1.1
  unfold f_End_strike m_str1
  rw [o2', o3', show I (oSk A e n) + 1 = I (oSk A e n + 1) from I_add _ 1, up3_at, if_pos rfl, inbT hpa (by decide), I_ix (by omega), hrt, show I (aN A e (7 + oPa A e n)) / 2 = I (aN A e (7 + oPa A e n) / 2) from I_div (b := 2) (by omega) (by decide), show f_Math_max 1 (I (aN A e (7 + oPa A e n) / 2)) = I (max 1 (aN A e (7 + oPa A e n) / 2)) from max_I (a := 1) (by decide) (by omega)]
  have hm : n ≤ aN A e 4 ∧ oSt A e n = 2 := ⟨h2, hst⟩
  simp only [if_pos hm]
  by_cases c3 : oSk A e n + 1 = 3
  · rw [if_neg (show ¬ I (oSk A e n + 1) < 3 from fun z => by have := (I_lt (b := 3) (by omega) (by decide)).mp z; omega), if_pos trivial]
    simp only [if_pos c3]
    have hO : RSe (uO A (up2 (aO A) e n (oWd A e n, 3, oPa A e n, 0))) e (up3 (up3 (up3 S 51 (24 * e + n % 24) 0 (I (oSk A e n + 1))) 49 (24 * e + n % 24) 0 3) 51 (24 * e + n % 24) 0 0) := by
      refine RSx_O h he b3 h1 h2 (fun x i hx => by rw [up3_ob (by omega), up3_ob (by omega), up3_ob (by omega)]) ⟨⟨?_, ?_, ?_⟩, wrS_cg o4 (fun x a b => by rw [up3_ob (by omega), up3_ob (by omega), up3_ob (by omega)])⟩
      · rw [up3_code (by decide), up3_at, if_pos rfl]
      · rw [up3_code (by decide), up3_code (by decide), up3_code (by decide)]; exact o2
      · rw [up3_at, if_pos rfl]; rfl
    refine .some ⟨⟨?_, (((frS.rfl.up (ow_sw (by decide) (by omega))).up (ow_sw (by decide) (by omega))).up (ow_sw (by decide) (by omega))).up (ow_p (by decide) hpa)⟩, by rw [up3_code (by decide), up3_code (by decide), up3_code (by decide), up3_code (by decide)]⟩
    refine ss_path hO hpa (eqX_N (by omega)) (up2_ne2 (by omega)) rfl rfl (fun q hq hne => ⟨⟨up2_ne2 (by omega), up2_ne2 (by omega), up2_ne2 (by omega)⟩, ⟨rfl, rfl⟩, rfl, rfl, rfl⟩) (fun x i hx => up3_ob (c := 33) (by omega)) (fun _ hps => ?_)
    obtain ⟨⟨p1, p2, p3⟩, p4, ⟨p5, p6⟩, p7, p8⟩ := hps
    have n7 : aN (sN (uO A (up2 (aO A) e n (oWd A e n, 3, oPa A e n, 0))) e (7 + oPa A e n) (max 1 (aN A e (7 + oPa A e n) / 2))) e (7 + oPa A e n) = max 1 (aN A e (7 + oPa A e n) / 2) := up2_eq
    have nN : ∀ i, i ≠ 7 + oPa A e n → aN (sN (uO A (up2 (aO A) e n (oWd A e n, 3, oPa A e n, 0))) e (7 + oPa A e n) (max 1 (aN A e (7 + oPa A e n) / 2))) e i = aN A e i := fun i hi => up2_ne2 hi
    unfold pS
    rw [n7, nN (9 + oPa A e n) (by omega), nN (11 + oPa A e n) (by omega)]
    refine ⟨⟨?_, ?_, ?_⟩, ?_, ⟨?_, fun z => ?_⟩, ?_, fun z => ?_⟩
    · rw [up3_at, if_pos rfl]
    · rw [up3_code (by decide)]; exact p2
    · rw [up3_code (by decide)]; exact p3
    · rw [up3_code (by decide)]; exact p4
    · rw [up3_code (by decide)]; exact p5
    · rw [up3_code (by decide)]; exact p6 z
    · rw [up3_code (by decide)]; exact p7
    · rw [up3_code (by decide)]; exact p8 z
  · rw [if_pos (show I (oSk A e n + 1) < 3 from (I_lt (b := 3) (by omega) (by decide)).mpr (by omega))]
    simp only [if_neg c3]
    refine .some ⟨⟨?_, frS.rfl.up (ow_sw (by decide) (by omega))⟩, up3_code (by decide)⟩
    refine RSx_O h he b3 h1 h2 (fun x i hx => up3_ob (c := 51) (by omega)) ⟨⟨?_, ?_, ?_⟩, wrS_cg o4 (fun x a b => up3_ob (c := 51) (by omega))⟩
    · rw [up3_code (by decide), o1]; exact hst
    · rw [up3_code (by decide)]; exact o2
    · rw [up3_at, if_pos rfl]
theorem topB_le (g : Int32) : ∀ k, topB g k ≤ k
  | 0 => Nat.le_refl _
  | k + 1 => by
    rw [topB]
    split
    · omega
    · have := topB_le g k
      omega
theorem S_strk {A : MA} {e : Nat} {S : St} {g : Int32} (h : RSe A e S) (he : e < 2) (h3 : aI A e 0 = 3) (hb : bO A e) : sat (f_End_strikeBelow e g S) (fun S' => (RSe (m_strk A e (topB g 16)) e S' ∧ frS e S S') ∧ S' 41 = S 41) := by
  have k21 : ∀ t, t ≤ 15 → sat (f_End_strikeBelow_21 e (I t) S) (fun S' => (RSe (m_strk A e t) e S' ∧ frS e S S') ∧ S' 41 = S 41) := by
    intro t ht
    unfold f_End_strikeBelow_21 f_End_strikeBelow_23
    refine sat_upP (fun i x => x.1 = I i ∧ (RSe (m_strk A e i) e x.2 ∧ frS e S x.2) ∧ x.2 41 = S 41) t (fun i x hi hx => ?_) (fun x hx => ?_) ⟨rfl, ⟨(show RSe (m_strk A e 0) e S from h), frS.rfl⟩, rfl⟩ (by omega)
    · obtain ⟨c, S1⟩ := x
      obtain ⟨rfl, ⟨q1, q2⟩, q3⟩ := hx
      replace q1 : RSe (m_strk A e i) e S1 := q1
      replace q2 : frS e S S1 := q2
      replace q3 : S1 41 = S 41 := q3
      have hbk := m_strk_bO hb i
      have n3 := m_strk_N (i := 3) (by omega) hb i
      have n4 := m_strk_N (i := 4) (by omega) hb i
      have hfn : S1 cOutbox_firstNumber e 0 = I (aN A e 3 + 1) := by
        have z := sr_first q1
        rw [n3] at z
        exact z
      have b4 := hb.2.2.2.1
      have b2 := hb.2.1
      have hsof := S_sof q1 hbk (n := aN A e 3 + 1 + i) (by rw [n3]; omega) (by omega)
      rw [n4] at hsof
      unfold f_End_strikeBelow_23_b f_End_strikeBelow_65
      dsimp only
      rw [if_pos ((I_lt (by omega) (by omega)).mpr hi), hfn, I_add, hsof, bdS]
      have hms : m_strk A e (i + 1) = m_str1 (m_strk A e i) e (aN A e 3 + 1 + i) := by
        rw [m_strk, show aN A e 3 + i + 1 = aN A e 3 + 1 + i by omega]
      by_cases hin : aN A e 3 + 1 + i ≤ aN A e 4
      · rw [if_pos hin]
        by_cases c2 : oSt (m_strk A e i) e (aN A e 3 + 1 + i) = 2
        · rw [if_pos c2, S_at (by omega), bdS]
          refine .bd (S_str1 q1 he (by rw [(m_strk_I i).1]; exact h3) hbk (n := aN A e 3 + 1 + i) (by rw [n3]; omega) (by rw [n4]; exact hin) c2) (fun S2 h2 => .some ⟨I_add i 1, ⟨?_, q2.trans h2.1.2⟩, h2.2.trans q3⟩)
          rw [hms]
          exact h2.1.1
        · rw [if_neg c2]
          refine .some ⟨I_add i 1, ⟨?_, q2⟩, q3⟩
          rw [hms]
          unfold m_str1
          rw [if_neg (fun z => c2 z.2)]
          exact q1
      · rw [if_neg hin, if_neg (by decide)]
        refine .some ⟨I_add i 1, ⟨?_, q2⟩, q3⟩
        rw [hms]
        unfold m_str1
        rw [if_neg (fun z => by have := z.1; omega)]
        exact q1
    · obtain ⟨c, S1⟩ := x
      obtain ⟨rfl, q1, q3⟩ := hx
      unfold f_End_strikeBelow_23_b
      dsimp only
      rw [if_neg (fun z => by have := (I_lt (by omega) (by omega)).mp z; omega)]
      exact .exW (.some ⟨q1, q3⟩)
  unfold f_End_strikeBelow f_End_strikeBelow_3
  refine sat_iter (fun j x => j ≤ 15 ∧ x = I j ∧ topB g (j + 1) = topB g 16) (P := fun S' => (RSe (m_strk A e (topB g 16)) e S' ∧ frS e S S') ∧ S' 41 = S 41) ?_ (i := 15) (by decide) ⟨by decide, rfl, rfl⟩
  rintro j x ⟨hj, rfl, ht⟩
  unfold f_End_strikeBelow_3_b
  rw [topB] at ht
  by_cases h0 : 0 < j
  · rw [if_pos (show (0 : Int32) < I j from (I_lt (a := 0) (by decide) (by omega)).mpr h0)]
    cases hbit : bitS g j with
    | false =>
      rw [if_pos ((isSet_bit g j).mpr hbit)]
      rw [if_neg (by rw [hbit]; decide)] at ht
      refine .some ⟨j - 1, by omega, by omega, ?_, by rw [show j - 1 + 1 = j by omega]; exact ht⟩
      have : I j = I (j - 1) + 1 := by
        rw [show (1 : Int32) = I 1 from rfl, I_add]
        exact congrArg I (by omega)
      rw [this, Int32.add_assoc]
      exact Int32.add_zero _
    | true =>
      rw [if_neg (fun z => by rw [(isSet_bit g j).mp z] at hbit; cases hbit)]
      rw [if_pos hbit] at ht
      rw [← ht]
      exact .exW (k21 j hj)
  · rw [if_neg (show ¬ (0 : Int32) < I j from fun z => h0 ((I_lt (a := 0) (by decide) (by omega)).mp z))]
    have hj0 : j = 0 := by omega
    subst hj0
    have : topB g 16 = 0 := by
      rw [← ht]
      split <;> rfl
    rw [this]
    exact .exW (k21 0 (by decide))
