theorem wcp_fr {S1 : St} {u u1 x i : Nat} (hx : x < 54 ∨ 60 < x ∨ i ≠ u) : f_Word_copyFrom u u1 S1 x i = S1 x i := by
  unfold f_Word_copyFrom
  rw [up3_ob (c := 60) (by omega), up3_ob (c := 59) (by omega), up3_ob (c := 58) (by omega), up3_ob (c := 57) (by omega), up3_ob (c := 56) (by omega), up3_ob (c := 55) (by omega), up3_ob (c := 54) (by omega)]
theorem ccp_fr {S1 : St} {u u1 x i : Nat} (hx : x < 3 ∨ 6 < x ∨ i ≠ u) : f_Cookie_copyFrom u u1 S1 x i = S1 x i := by
  unfold f_Cookie_copyFrom
  rw [up3_ob (c := 6) (by omega), up3_ob (c := 5) (by omega), up3_ob (c := 4) (by omega), up3_ob (c := 3) (by omega)]
theorem ccp_at {S1 : St} {u u1 : Nat} {q : Nat → Int32} (h : ckS q S1 u1) : ckS q (f_Cookie_copyFrom u u1 S1) u := by
  obtain ⟨h1, h2, h3, h4⟩ := h
  have h1' : S1 cCookie_clientTag u1 0 = q 0 := h1
  have h2' : S1 cCookie_serverTag u1 0 = q 1 := h2
  have h3' : S1 cCookie_tick u1 0 = q 2 := h3
  have h4' : S1 cCookie_seal u1 0 = q 3 := h4
  unfold f_Cookie_copyFrom
  rw [h1', h2', h3', h4']
  refine ⟨?_, ?_, ?_, ?_⟩
  · rw [up3_code (by decide), up3_code (by decide), up3_code (by decide), up3_at, if_pos rfl]
  · rw [up3_code (by decide), up3_code (by decide), up3_at, if_pos rfl]
  · rw [up3_code (by decide), up3_at, if_pos rfl]
  · rw [up3_at, if_pos rfl]
theorem S_pcopy {q : Pkt} {S : St} {u u1 : Nat} (h : pkS q S u1) (hu : u ≠ u1) : pkS q (f_Packet_copyFrom u u1 S) u ∧ ∀ x i, ¬ (pcd x ∧ i = u) → f_Packet_copyFrom u u1 S x i = S x i := by
  obtain ⟨h1, h2, h3, h4, h5, h6, h7⟩ := h
  unfold f_Packet_copyFrom
  generalize hS0 : up3 (up3 (up3 S cPacket_kind u 0 (S cPacket_kind u1 0)) cPacket_tag u 0 (S cPacket_tag u1 0)) cPacket_newTag u 0 (S cPacket_newTag u1 0) = S0
  have f0 : ∀ x i, (x ≠ 26 ∧ x ≠ 27 ∧ x ≠ 28 ∨ i ≠ u) → S0 x i = S x i := fun x i hx => by
    rw [← hS0, up3_ob (c := 28) (by omega), up3_ob (c := 27) (by omega), up3_ob (c := 26) (by omega)]
  have g26 : S0 26 u 0 = S 26 u1 0 := by rw [← hS0, up3_code (by decide), up3_code (by decide), up3_at, if_pos rfl]
  have g27 : S0 27 u 0 = S 27 u1 0 := by rw [← hS0, up3_code (by decide), up3_at, if_pos rfl]
  have g28 : S0 28 u 0 = S 28 u1 0 := by rw [← hS0, up3_at, if_pos rfl]
  generalize hS3 : f_Word_copyFrom u u1 (f_Cookie_copyFrom u u1 S0) = S3
  have f3 : ∀ x i, (x < 3 ∨ (6 < x ∧ x < 54) ∨ 60 < x ∨ i ≠ u) → S3 x i = S0 x i := fun x i hx => by
    rw [← hS3, wcp_fr (by omega), ccp_fr (by omega)]
  have f4 : ∀ x i, (x < 29 ∨ 32 < x ∨ i ≠ u) → up3 (up3 (up3 (up3 S3 cPacket_number u 0 (S3 cPacket_number u1 0)) cPacket_gaps u 0 (S3 cPacket_gaps u1 0)) cPacket_window u 0 (S3 cPacket_window u1 0)) cPacket_tick u 0 (S3 cPacket_tick u1 0) x i = S3 x i := fun x i hx => by
    rw [up3_ob (c := 32) (by omega), up3_ob (c := 31) (by omega), up3_ob (c := 30) (by omega), up3_ob (c := 29) (by omega)]
  have gk : ∀ x, S3 x u1 = S x u1 := fun x => by rw [f3 x u1 (by omega), f0 x u1 (by omega)]
  refine ⟨⟨?_, ?_, fun k => ?_, fun k => ?_, fun k => ?_, fun k => ⟨?_, ?_, ?_⟩, fun k => ?_⟩, fun x i hx => ?_⟩
  · rw [f4 26 u (by omega), f3 26 u (by omega), g26]; exact h1
  · rw [f4 27 u (by omega), f3 27 u (by omega), g27]; exact h2
  · rw [f4 28 u (by omega), f3 28 u (by omega), g28]; exact h3 k
  · refine ckS_cg (S := f_Cookie_copyFrom u u1 S0) ?_ (fun x a b => by rw [f4 x u (by omega), ← hS3, wcp_fr (by omega)])
    exact ccp_at (ckS_cg (h4 k) (fun x a b => f0 x u1 (by omega)))
  · refine wrS_cg (S := S3) ?_ (fun x a b => f4 x u (by omega))
    rw [← hS3]
    exact (S_wcopy (S := S) (S1 := f_Cookie_copyFrom u u1 S0) (h5 k) hu (fun x a b => by rw [ccp_fr (by omega), f0 x u1 (by omega)])).1
  · rw [up3_code (by decide), up3_code (by decide), up3_code (by decide), up3_at, if_pos rfl, gk]; exact (h6 k).1
  · rw [up3_code (by decide), up3_code (by decide), up3_at, if_pos rfl, gk]; exact (h6 k).2.1
  · rw [up3_code (by decide), up3_at, if_pos rfl, gk]; exact (h6 k).2.2
  · rw [up3_at, if_pos rfl, gk]; exact h7 k
  · unfold pcd at hx
    rw [f4 x i (by omega), f3 x i (by omega), f0 x i (by omega)]
theorem S_dup {A : MA} {e p : Nat} {S : St} (h : RSe A e S) (he : e < 2) (hp : p < 2) {q : Pkt} {l : List Pkt} (hl : aP A (2 * e + p) = q :: l) (h8 : (aP A (2 * e + p)).length < 8) : sat (f_L_alter_54 1 (2 * e + p) S) (fun x => x.1 = 1 ∧ RSe (m_dup A (2 * e + p)) e x.2 ∧ frS e S x.2) := by
  obtain ⟨a, ha, r1, r2, r3⟩ := sr_row h hp
  have hR : 2 * e + p < 4 := by omega
  have hdiv : (2 * e + p) / 2 = e := by omega
  have r2' : S cRow_count (2 * e + p) 0 = I (aP A (2 * e + p)).length := r2
  have r1' : S cRow_start (2 * e + p) 0 = I a := r1
  have hpos : 0 < (aP A (2 * e + p)).length := by rw [hl]; exact Nat.succ_pos _
  have hq := r3 0 q (by rw [hl]; rfl)
  rw [Nat.add_zero, Nat.mod_eq_of_lt ha] at hq
  unfold f_L_alter_54 f_L_alter_79 f_Row_addNew f_Row_isFull f_Row_oldest
  rw [if_neg (by decide), r2', r1']
  generalize hn : (aP A (2 * e + p)).length = n at *
  rw [if_pos (show I n < 8 from (I_lt (b := 8) (by omega) (by decide)).mpr h8), if_pos rfl, I_add, show iRem (I (a + n)) 8 = I ((a + n) % 8) from I_rem (b := 8) (by omega) (by decide), inbT (show (a + n) % 8 < 8 by omega) (by decide), if_pos rfl, I_ix (by omega), show (1 : Int32) = I 1 from rfl, I_add]
  have hst : up3 S cRow_count (2 * e + p) 0 (I (n + 1)) cRow_start (2 * e + p) 0 = I a := by rw [up3_code (by decide)]; exact r1
  show sat (bd (if inb (up3 S cRow_count (2 * e + p) 0 (I (n + 1)) cRow_start (2 * e + p) 0) 8 = true then some (9 * (2 * e + p) + ix (up3 S cRow_count (2 * e + p) 0 (I (n + 1)) cRow_start (2 * e + p) 0)) else none) _) _
  rw [hst, inbT ha (by decide), if_pos rfl, I_ix (by omega), bdS]
  have hne : 9 * (2 * e + p) + (a + n) % 8 ≠ 9 * (2 * e + p) + a := by omega
  have hq1 : pkS q (up3 S 48 (2 * e + p) 0 (I (n + 1))) (9 * (2 * e + p) + a) := pkS_cg hq (fun x hx => up3_ob (by unfold pcd at hx; omega))
  obtain ⟨z1, z2⟩ := S_pcopy hq1 hne
  generalize hS2 : f_Packet_copyFrom (9 * (2 * e + p) + (a + n) % 8) (9 * (2 * e + p) + a) (up3 S 48 (2 * e + p) 0 (I (n + 1))) = S2 at z1 z2
  have cc : ∀ x i, ¬ (pcd x ∧ i = 9 * (2 * e + p) + (a + n) % 8) → (x ≠ 48 ∨ i ≠ 2 * e + p) → S2 x i = S x i := fun x i hx h48 => by rw [z2 x i hx, up3_ob h48]
  refine .some ⟨rfl, ?_, fun x i hx => ?_⟩
  · dsimp only
    unfold m_dup
    rw [show (aP A (2 * e + p)).take 1 = [q] by rw [hl]; rfl]
    refine RSx_R (S' := S2) h he hp (fun x i _ h48 hz => cc x i (fun z => by
        rcases hz with hz | hz
        · exact hz z.1
        · omega) (Or.inl h48)) (fun x i hx hi => cc x i (fun z => by have := z.1; unfold pcd at this; omega) (Or.inr hi)) ⟨a, ha, by rw [cc 47 _ (fun z => by have := z.1; unfold pcd at this; omega) (Or.inl (by decide))]; exact r1, ?_, fun i w hw => ?_⟩
    · rw [z2 48 _ (fun z => by have := z.1; unfold pcd at this; omega), up3_at, if_pos rfl, List.length_append, hn]; rfl
    · by_cases hi : i < n
      · rw [List.getElem?_append_left (by omega)] at hw
        exact pkS_cg (r3 i w hw) (fun x hx => cc x _ (fun z => by omega) (Or.inl (by unfold pcd at hx; omega)))
      · rw [List.getElem?_append_right (by omega)] at hw
        have hz : i - (aP A (2 * e + p)).length = 0 := by
          by_cases z : i - (aP A (2 * e + p)).length = 0
          · exact z
          · rw [List.getElem?_eq_none (by simp; omega)] at hw
            cases hw
        rw [hz] at hw
        cases hw
        rw [show i = n by omega]
        exact z1
  · dsimp only
    refine cc x i (fun z => hx (by rw [ow_pk z.1 (by omega) (by omega) hR, hdiv])) ?_
    by_cases z : x = 48 ∧ i = 2 * e + p
    · obtain ⟨rfl, rfl⟩ := z
      exact absurd (by rw [ow_row (Or.inr rfl), hdiv]) hx
    · omega
theorem S_alter {A : MA} {S : St} (h : RS A S) (hb : bP A) {e p : Nat} (he : e < 2) (hp : p < 2) {w : Int32} (hw : w = 0 ∨ w = 1) : sat (f_L_alter 0 (I e) (I p) w S) (fun x => x.1 = (if aP A (2 * e + p) = [] ∨ (w ≠ 0 ∧ (aP A (2 * e + p)).length = 8) then 0 else 1) ∧ RS (if aP A (2 * e + p) = [] ∨ (w ≠ 0 ∧ (aP A (2 * e + p)).length = 8) then A else if w = 0 then m_take A (2 * e + p) else m_dup A (2 * e + p)) x.2) := by
  have hR : 2 * e + p < 4 := by omega
  have hlen := hb _ hR
  obtain ⟨a, ha, r1, r2, r3⟩ := sr_row (h.e he) hp
  have r2' : S cRow_count (2 * e + p) 0 = I (aP A (2 * e + p)).length := r2
  have hz0 : (I (aP A (2 * e + p)).length = 0) ↔ (aP A (2 * e + p)).length = 0 := I_eq (b := 0) (by omega) (by decide)
  unfold f_L_alter f_L_alter_14 f_L_alter_52
  rw [if_neg (isEnd_I he), if_neg (isPath_I hp), inbT he (by decide), if_pos rfl, inbT hp (by decide), if_pos rfl, I_ix (by omega), I_ix (by omega), r2']
  by_cases h0 : aP A (2 * e + p) = []
  · rw [if_pos (hz0.mpr (by rw [h0]; rfl))]
    simp only [if_pos (Or.inl h0 : aP A (2 * e + p) = [] ∨ (w ≠ 0 ∧ (aP A (2 * e + p)).length = 8))]
    exact .some ⟨rfl, h⟩
  · obtain ⟨q, l, hl⟩ : ∃ q l, aP A (2 * e + p) = q :: l := by
      cases hx : aP A (2 * e + p) with
      | nil => exact absurd hx h0
      | cons q l => exact ⟨q, l, rfl⟩
    have hL : (aP A (2 * e + p)).length = l.length + 1 := by rw [hl]; rfl
    rw [if_neg (fun z => by have := hz0.mp z; omega)]
    rcases hw with rfl | rfl
    · have hc : ¬ (aP A (2 * e + p) = [] ∨ ((0 : Int32) ≠ 0 ∧ (aP A (2 * e + p)).length = 8)) := fun z => z.elim h0 (fun z => z.1 rfl)
      simp only [if_neg hc, if_true]
      obtain ⟨o, e1, e2, e3, e4, e5, e6, e7⟩ := S_take (h.e he) he hp hlen hl
      unfold f_L_alter_54 f_L_alter_79
      rw [if_pos rfl]
      refine .some ⟨rfl, RS_up h he ⟨e4, e5⟩ fr_uP (fun r hr => ?_) rfl rfl⟩
      show up1 (aP A) (2 * e + p) _ r = aP A r
      rw [up1_ne (by omega)]
    · rw [if_neg (by decide)]
      unfold f_Row_isFull
      rw [r2']
      by_cases h8 : (aP A (2 * e + p)).length = 8
      · rw [if_neg (show ¬ I (aP A (2 * e + p)).length < 8 from fun z => by have := (I_lt (b := 8) (by omega) (by decide)).mp z; omega), if_neg (by decide)]
        have hc : aP A (2 * e + p) = [] ∨ ((1 : Int32) ≠ 0 ∧ (aP A (2 * e + p)).length = 8) := Or.inr ⟨by decide, h8⟩
        simp only [if_pos hc]
        exact .some ⟨rfl, h⟩
      · rw [if_pos (show I (aP A (2 * e + p)).length < 8 from (I_lt (b := 8) (by omega) (by decide)).mpr (by omega)), if_pos rfl]
        have hc : ¬ (aP A (2 * e + p) = [] ∨ ((1 : Int32) ≠ 0 ∧ (aP A (2 * e + p)).length = 8)) := fun z => z.elim h0 (fun z => h8 z.2)
        simp only [if_neg hc]
        rw [if_neg (show ¬ (1 : Int32) = 0 by decide)]
        refine (S_dup (h.e he) he hp hl (by omega)).imp (fun x hx => ⟨hx.1, RS_up h he hx.2 fr_uP (fun r hr => ?_) rfl rfl⟩)
        show up1 (aP A) (2 * e + p) _ r = aP A r
        rw [up1_ne (by omega)]
