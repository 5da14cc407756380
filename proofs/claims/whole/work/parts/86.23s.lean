def bM (A : MA) (e : Nat) : Prop := MP A e ∧ (∀ m, aH A e 1 m = true → (1 ≤ m ∧ m ≤ aN A e 5 + 16 ∧ aN A e 5 < m + 4) ∧ (aW A e m).2.1 < 3 ∧ (aW A e m).2.2.1 < 4000) ∧ (∀ s, s < 3 → aN A e (16 + s) + cHd A e < 4000) ∧ (aR A e).length + cHd A e ≤ 512 ∧ aN A e 5 ≤ 511
theorem bM_cpos {A : MA} {e n : Nat} (h : bM A e) (hh : aH A e 1 n = true) : 0 < cHd A e := by
  obtain ⟨⟨h1, h2, h3⟩, _⟩ := h.2.1 n hh
  have := h.2.2.2.2
  exact cntN_pos (by omega) hh _ (by omega)
theorem m_move_5 (A : MA) (e n m : Nat) (hs : (aW A e n).2.1 < 3) : aN (m_move A e n m) e 5 = aN A e 5 := by rw [m_move_N, if_neg (by omega), if_neg (by omega)]
theorem move_H {A : MA} {e n m k i : Nat} : aH (m_move A e n m) e k i = if k = 1 ∧ n ≤ i ∧ i < n + m then false else aH A e k i := by
  rw [m_move_H]
  show (if e = e ∧ k = 1 ∧ n ≤ i ∧ i < n + m then false else aH A e k i) = _
  by_cases hz : k = 1 ∧ n ≤ i ∧ i < n + m
  · rw [if_pos ⟨rfl, hz⟩, if_pos hz]
  · rw [if_neg (fun z => hz z.2), if_neg hz]
theorem move_Hs {A : MA} {e n m k i : Nat} (h : aH (m_move A e n m) e k i = true) : aH A e k i = true := by
  rw [move_H] at h
  by_cases hz : k = 1 ∧ n ≤ i ∧ i < n + m
  · rw [if_pos hz] at h; cases h
  · rw [if_neg hz] at h; exact h
theorem bM_move {A : MA} {e n m : Nat} (h : bM A e) (hh : aH A e 1 n = true) (hm : 0 < m) : bM (m_move A e n m) e := by
  obtain ⟨h1, h2, h3, h4, h5⟩ := h
  obtain ⟨⟨a1, a2, a3⟩, a4, a5⟩ := h2 n hh
  have hc := cHd_move (m := m) hh a1 (by omega) hm
  have n5 := m_move_5 A e n m a4
  refine ⟨fun i hi hf => ?_, fun i hi => ?_, fun s hs => ?_, ?_, by rw [n5]; exact h5⟩
  · rw [m_move_W] at hf ⊢
    obtain ⟨j, hj, hk⟩ := h1 i (move_Hs hi) hf
    exact ⟨j, hj, fun z => hk (move_Hs z)⟩
  · rw [m_move_W, n5]
    exact h2 i (move_Hs hi)
  · have := h3 s hs
    rw [m_move_N, if_neg (by omega)]
    split
    · rename_i hz
      have : s = (aW A e n).2.1 := by omega
      rw [← this]
      omega
    · omega
  · rw [m_move_R, up1_eq, List.length_append]
    show _ + 1 + _ ≤ 512
    omega
theorem cand_if {A : MA} {e n : Nat} : m_cand A e n = true ↔ (aH A e 1 n = true ∧ (aW A e n).2.2.2.1 = true) ∧ 0 < m_whl A e n ∧ ((aW A e n).2.2.2.2.2 = true ∨ (aW A e n).2.2.1 = aN A e (16 + (aW A e n).2.1)) := by
  unfold m_cand
  simp only [Bool.and_eq_true, Bool.or_eq_true, decide_eq_true_eq, Nat.beq_eq]
theorem S_move {A : MA} {e n : Nat} {S : St} (h : RSe A e S) (he : e < 2) (hb : bM A e) (hc : m_cand A e n = true) : sat (f_Inbox_moveToReady e (I n) (I (m_whl A e n)) S) (fun S' => RSe (m_move A e n (m_whl A e n)) e S' ∧ frS e S S') := by
  obtain ⟨⟨hh, hfi⟩, hpos, hmay⟩ := cand_if.mp hc
  obtain ⟨h1, h2, h3, h4, h5⟩ := id hb
  obtain ⟨⟨a1, a2, a3⟩, a4, a5⟩ := h2 n hh
  have hcp := bM_cpos hb hh
  obtain ⟨_, hheld⟩ := m_whl_pos (A := A) (e := e) (n := n) (aN A e 5 + 17 - n) 0 hpos
  have hw4 := whl_4 h1 hh hfi (fun m hm => (h2 m hm).1.2.1)
  have hw4' : m_whl A e n ≤ 4 := by
    rw [← hw4]
    have := whlN_le A e n 4 0
    omega
  have hheld' : ∀ j, j < m_whl A e n → aH A e 1 (n + j) = true := fun j hj => hheld j (Nat.zero_le _) hj
  generalize hM : m_whl A e n = M at *
  have hend : n + M ≤ aN A e 5 + 17 := by
    have := (h2 _ (hheld' (M - 1) (by omega))).1.2.1
    omega
  obtain ⟨q1, q2, q3, q4⟩ := id h.2.1.2.1
  obtain ⟨⟨v1, v2, v3, v4⟩, v5, v6, v7⟩ := (q1 n a1 a3 a2).2 hh
  obtain ⟨s1, s2⟩ := slot_in (n := n) (by omega)
  obtain ⟨rl1, rl2, rl3⟩ := id h.2.1.2.2
  have rl1' : S cReadyList_count e 0 = I (aR A e).length := rl1
  have rl2' : S cReadyList_words e 0 = sumR (aR A e) := rl2
  have v2' : S cWord_value (32 * e + n % 32 + 84) 0 = (aW A e n).1 := v2
  have v3' : S cWord_stream (32 * e + n % 32 + 84) 0 = I (aW A e n).2.1 := v3
  have v7' : S cWord_unordered (32 * e + n % 32 + 84) 0 = b01 (aW A e n).2.2.2.2.2 := v7
  have hnx : S cInbox_nextOrders e (aW A e n).2.1 = I (aN A e (16 + (aW A e n).2.1)) := sr_nextO h a4
  have hun : S cInbox_unreadyWords e 0 = aI A e 10 - sumR (aR A e) := sr_unr h
  -- the store behind the list and the orders
  have key : ∀ (d : Nat) (S1 : St), d = (if (aW A e n).2.2.2.2.2 = true then 0 else 1) → (∀ x i, (x < 42 ∨ 46 < x ∨ i ≠ e) → (x ≠ 19 ∨ i ≠ e) → S1 x i = S x i) → (∀ s, s < 3 → S1 19 e s = if s = (aW A e n).2.1 then I (aN A e (16 + s) + d) else S 19 e s) → rS (aR A e ++ [((aW A e n).2.1, (aW A e n).1, M)]) e S1 → sat (f_Inbox_moveToReady_46 e (I n) (I M) S1) (fun S' => RSe (m_move A e n M) e S' ∧ frS e S S') := by
    intro d S1 hd c1 c19 cR
    have mN : ∀ i, i < 16 ∨ 19 ≤ i ∧ i < 23 → aN (m_move A e n M) e i = aN A e i := fun i hi => by rw [m_move_N, if_neg (by omega), if_neg (by omega)]
    have mI : aI (m_move A e n M) = aI A := by
      unfold m_move
      dsimp only
      split <;> rfl
    have mO : aB (m_move A e n M) = aB A ∧ aO (m_move A e n M) = aO A ∧ aP (m_move A e n M) = aP A ∧ gN (m_move A e n M) = gN A ∧ gI (m_move A e n M) = gI A := by
      unfold m_move
      dsimp only
      split <;> exact ⟨rfl, rfl, rfl, rfl, rfl⟩
    have mR : aR (m_move A e n M) e = aR A e ++ [((aW A e n).2.1, (aW A e n).1, M)] := by rw [m_move_R, up1_eq]
    have m16 : ∀ s, s < 3 → aN (m_move A e n M) e (16 + s) = if s = (aW A e n).2.1 then aN A e (16 + s) + d else aN A e (16 + s) := fun s hs => by
      rw [m_move_N, if_neg (by omega)]
      by_cases hz : s = (aW A e n).2.1
      · rw [if_pos hz]
        cases hl : (aW A e n).2.2.2.2.2 with
        | true =>
          rw [hl] at hd
          rw [if_neg (fun z => by cases z.2), hd]
          rfl
        | false =>
          rw [hl] at hd
          rw [if_pos ⟨⟨rfl, by omega⟩, rfl⟩, hd, ← hz]
          rfl
      · rw [if_neg hz, if_neg (by omega)]
    unfold f_Inbox_moveToReady_46 f_Inbox_moveToReady_49
    refine sat_upP (fun i x => x.1 = I i ∧ (∀ y k, (y ≠ 18 ∨ k ≠ e) → x.2 y k = S1 y k) ∧ ∀ k, x.2 18 e k = if ∃ j, j < i ∧ k = (n + j) % 32 then 0 else S1 18 e k) M (fun i x hi hx => ?_) (fun x hx => ?_) ⟨rfl, fun _ _ _ => rfl, fun k => ?_⟩ (by omega)
    · obtain ⟨c, S2⟩ := x
      obtain ⟨rfl, r1, r2⟩ := hx
      replace r1 : ∀ y k, (y ≠ 18 ∨ k ≠ e) → S2 y k = S1 y k := r1
      replace r2 : ∀ k, S2 18 e k = if ∃ j, j < i ∧ k = (n + j) % 32 then 0 else S1 18 e k := r2
      obtain ⟨t1, t2⟩ := slot_in (n := n + i) (by omega)
      unfold f_Inbox_moveToReady_49_b
      dsimp only
      rw [if_pos ((I_lt (by omega) (by omega)).mpr hi), I_add, t1, t2, if_pos rfl]
      refine .some ⟨I_add i 1, fun y k hy => ?_, fun k => ?_⟩
      · dsimp only
        rw [up3_ob (c := 18) hy]
        exact r1 y k hy
      · dsimp only
        rw [up3_at]
        by_cases hz : k = (n + i) % 32
        · rw [if_pos hz, if_pos ⟨i, by omega, hz⟩]
        · rw [if_neg hz, r2 k]
          by_cases hy : ∃ j, j < i ∧ k = (n + j) % 32
          · obtain ⟨j, hj, hk⟩ := hy
            rw [if_pos ⟨j, hj, hk⟩, if_pos ⟨j, by omega, hk⟩]
          · rw [if_neg hy, if_neg (fun ⟨j, hj, hk⟩ => by
              by_cases hji : j = i
              · subst hji; exact hz hk
              · exact hy ⟨j, by omega, hk⟩)]
    · obtain ⟨c, S2⟩ := x
      obtain ⟨rfl, r1, r2⟩ := hx
      replace r1 : ∀ y k, (y ≠ 18 ∨ k ≠ e) → S2 y k = S1 y k := r1
      replace r2 : ∀ k, S2 18 e k = if ∃ j, j < M ∧ k = (n + j) % 32 then 0 else S1 18 e k := r2
      have hun2 : S2 cInbox_unreadyWords e 0 = aI A e 10 - sumR (aR A e) := by
        rw [r1 20 e (by omega), c1 20 e (by omega) (by omega)]
        exact hun
      unfold f_Inbox_moveToReady_49_b
      dsimp only
      rw [if_neg (fun z => by have := (I_lt (by omega) (by omega)).mp z; omega), hun2]
      refine .exW (.some ?_)
      have ca : ∀ y k, (y ≠ 18 ∨ k ≠ e) → (y ≠ 20 ∨ k ≠ e) → (y < 42 ∨ 46 < y ∨ k ≠ e) → (y ≠ 19 ∨ k ≠ e) → up3 S2 20 e 0 (aI A e 10 - sumR (aR A e) - I M) y k = S y k := fun y k p q r s => by rw [up3_ob q, r1 y k p, c1 y k r s]
      have cb : ∀ y k, (y ≠ 18 ∨ k ≠ e) → (y ≠ 20 ∨ k ≠ e) → up3 S2 20 e 0 (aI A e 10 - sumR (aR A e) - I M) y k = S1 y k := fun y k p q => by rw [up3_ob q, r1 y k p]
      have cd : ∀ k, up3 S2 20 e 0 (aI A e 10 - sumR (aR A e) - I M) 18 e k = if ∃ j, j < M ∧ k = (n + j) % 32 then 0 else S 18 e k := fun k => by
        rw [up3_code (by decide), r2 k, c1 18 e (by omega) (by omega)]
      refine ⟨RSx_H h he (fun i _ => by rw [mI]) (fun i hi _ => mN i (by omega)) ⟨by rw [mO.1], by rw [mO.2.1]⟩ mO.2.2.1 ⟨by rw [mO.2.2.2.1], by rw [mO.2.2.2.1], mO.2.2.2.2⟩ (fun x i p q r => ca x i (by omega) (by omega) (by omega) (by omega)) (fun s hs => ?_) ?_ ?_ ⟨fun k p q r => ?_, fun k hk hz => ?_, fun k p q => ?_, fun k hk => ?_⟩ ?_, fun x i hx => ?_⟩
      · rw [cb 19 e (by omega) (by omega), c19 s hs, m16 s hs]
        by_cases hz : s = (aW A e n).2.1
        · rw [if_pos hz, if_pos hz]
        · rw [if_neg hz, if_neg hz]
          exact sr_nextO h hs
      · rw [up3_at, if_pos rfl, mI, mR, sumR_app]
        show aI A e 10 - sumR (aR A e) - I M = aI A e 10 - (sumR (aR A e) + (I M + 0))
        rw [Int32.add_zero, Int32.sub_eq_add_neg, Int32.sub_eq_add_neg, Int32.sub_eq_add_neg, Int32.neg_add, Int32.add_assoc, Int32.sub_eq_add_neg]
      · rw [cb 21 e (by omega) (by omega), c1 21 e (by omega) (by omega), mN 5 (by omega)]
        exact sr_latest h
      · rw [mN 5 (by omega)] at q r
        rw [cd, move_H, m_move_W]
        by_cases hz : n ≤ k ∧ k < n + M
        · rw [if_pos ⟨k - n, by omega, by rw [show n + (k - n) = k by omega]⟩, if_pos ⟨rfl, hz⟩]
          exact ⟨rfl, fun z => by cases z⟩
        · rw [if_neg (fun ⟨j, hj, hk⟩ => by omega), if_neg (fun z => hz z.2)]
          obtain ⟨w1, w2⟩ := q1 k p q r
          exact ⟨w1, fun y => wrS_cg (w2 y) (fun x a b => ca x _ (by omega) (by omega) (by omega) (by omega))⟩
      · rw [cd] at hz
        by_cases hy : ∃ j, j < M ∧ k = (n + j) % 32
        · rw [if_pos hy] at hz
          exact absurd rfl hz
        · rw [if_neg hy] at hz
          obtain ⟨m, y1, y2, y3, y4, y5⟩ := q2 k hk hz
          refine ⟨m, y1, by rw [mN 5 (by omega)]; exact y2, by rw [mN 5 (by omega)]; exact y3, y4, ?_⟩
          rw [move_H, if_neg (fun z => hy ⟨m - n, by omega, by rw [show n + (m - n) = m by omega]; exact y4.symm⟩)]
          exact y5
      · rw [mN 5 (by omega)] at p q
        rw [ca 54 _ (by omega) (by omega) (by omega) (by omega), move_H, if_neg (by omega)]
        exact q3 k p q
      · rw [ca 54 _ (by omega) (by omega) (by omega) (by omega), mN 5 (by omega)]
        exact q4 k hk
      · rw [mR]
        exact rS_c cR (fun x a b => cb x e (by omega) (by omega))
      · refine ca x i ?_ ?_ ?_ ?_
        · by_cases z : x = 18 ∧ i = e
          · exact absurd (by rw [z.1, z.2]; exact ow_e (by decide)) hx
          · omega
        · by_cases z : x = 20 ∧ i = e
          · exact absurd (by rw [z.1, z.2]; exact ow_e (by decide)) hx
          · omega
        · by_cases z : (42 ≤ x ∧ x ≤ 46) ∧ i = e
          · exact absurd (by rw [z.2]; unfold ownr; rw [if_neg (by omega), if_neg (by omega), if_neg (by omega), if_neg (by omega), if_pos (by omega)]) hx
          · omega
        · by_cases z : x = 19 ∧ i = e
          · exact absurd (by rw [z.1, z.2]; exact ow_e (by decide)) hx
          · omega
    · dsimp only
      rw [if_neg (fun ⟨j, hj, _⟩ => by omega)]
  have hlen : (aR A e).length < 512 := by omega
  unfold f_Inbox_moveToReady f_ReadyList_add
  rw [s1, s2, if_pos rfl, v2', v3', rl1', rl2', if_pos (show I (aR A e).length < 512 from (I_lt (b := 512) (by omega) (by decide)).mpr hlen), inbT hlen (by decide), if_pos rfl, if_pos rfl, if_pos rfl, I_ix (by omega), bdS, show I (aR A e).length + 1 = I ((aR A e).length + 1) from I_add _ 1]
  generalize hS1 : up3 (up3 (up3 (up3 (up3 S cReadyList_streams e (aR A e).length (I (aW A e n).2.1)) cReadyList_firstWords e (aR A e).length (aW A e n).1) cReadyList_lengths e (aR A e).length (I M)) cReadyList_count e 0 (I ((aR A e).length + 1))) cReadyList_words e 0 (sumR (aR A e) + I M) = S1
  have f1 : ∀ x i, (x < 42 ∨ 46 < x ∨ i ≠ e) → S1 x i = S x i := fun x i hx => by
    rw [← hS1, up3_ob (c := 46) (by omega), up3_ob (c := 45) (by omega), up3_ob (c := 44) (by omega), up3_ob (c := 43) (by omega), up3_ob (c := 42) (by omega)]
  have fR : rS (aR A e ++ [((aW A e n).2.1, (aW A e n).1, M)]) e S1 := by
    refine ⟨?_, ?_, fun i q hq => ?_⟩
    · rw [← hS1, up3_code (by decide), up3_at, if_pos rfl, List.length_append]; rfl
    · rw [← hS1, up3_at, if_pos rfl, sumR_app]
      show _ = sumR (aR A e) + (I M + 0)
      rw [Int32.add_zero]
    · rw [← hS1, up3_code (by decide), up3_code (by decide), up3_code (by decide), up3_code (by decide), up3_at, up3_code (by decide), up3_code (by decide), up3_code (by decide), up3_at, up3_code (by decide), up3_code (by decide), up3_code (by decide), up3_at, up3_code (by decide), up3_code (by decide)]
      by_cases hi : i < (aR A e).length
      · rw [List.getElem?_append_left hi] at hq
        rw [if_neg (by omega), if_neg (by omega), if_neg (by omega)]
        exact rl3 i q hq
      · rw [List.getElem?_append_right (by omega)] at hq
        have hz : i - (aR A e).length = 0 := by
          by_cases z : i - (aR A e).length = 0
          · exact z
          · rw [List.getElem?_eq_none (by simp; omega)] at hq
            cases hq
        rw [hz] at hq
        cases hq
        rw [if_pos (by omega), if_pos (by omega), if_pos (by omega)]
        exact ⟨rfl, rfl, rfl⟩
  have g7 : S1 cWord_unordered (32 * e + n % 32 + 84) 0 = b01 (aW A e n).2.2.2.2.2 := by rw [f1 60 _ (by omega)]; exact v7
  have g3 : S1 cWord_stream (32 * e + n % 32 + 84) 0 = I (aW A e n).2.1 := by rw [f1 56 _ (by omega)]; exact v3
  have g19 : S1 cInbox_nextOrders e (aW A e n).2.1 = I (aN A e (16 + (aW A e n).2.1)) := by rw [f1 19 e (by omega)]; exact sr_nextO h a4
  rw [g7, g3, b01_nz, inbT a4 (by decide), I_ix (by omega), if_pos rfl, if_pos rfl, g19]
  cases hl : (aW A e n).2.2.2.2.2 with
  | true =>
    rw [if_neg (by decide)]
    refine key 0 S1 (by rw [hl]; rfl) (fun x i p _ => f1 x i p) (fun s hs => ?_) fR
    rw [f1 19 e (by omega)]
    by_cases hz : s = (aW A e n).2.1
    · rw [if_pos hz, Nat.add_zero]
      exact sr_nextO h hs
    · rw [if_neg hz]
  | false =>
    rw [if_pos (by decide), show I (aN A e (16 + (aW A e n).2.1)) + 1 = I (aN A e (16 + (aW A e n).2.1) + 1) from I_add _ 1]
    refine key 1 _ (by rw [hl]; rfl) (fun x i p q => ?_) (fun s hs => ?_) (rS_c fR (fun x a b => up3_ob (c := 19) (by omega)))
    · rw [up3_ob (c := 19) q]
      exact f1 x i p
    · rw [up3_at]
      by_cases hz : s = (aW A e n).2.1
      · rw [if_pos hz, if_pos hz, hz]
      · rw [if_neg hz, if_neg hz, f1 19 e (by omega)]
