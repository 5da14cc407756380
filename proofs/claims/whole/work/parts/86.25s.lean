theorem runN_le (f : Nat → Bool) (b : Nat) (hf : ∀ n, f n = true → n ≤ b) : ∀ k a, a ≤ b → runN f a k ≤ b
  | 0, a => fun h => h
  | k + 1, a => fun h => by
    rw [runN]
    split
    · rename_i hh
      exact runN_le f b hf k (a + 1) (hf _ hh)
    · exact h
theorem S_late {A : MA} {e : Nat} {S : St} (h : RSe A e S) (he : e < 2) (hl : aN A e 5 ≤ 511) (hH : ∀ m, aH A e 0 m = true → m ≤ aN A e 5 + 16) (hh1 : ∀ m, aH A e 1 m = true → m ≤ aN A e 5 + 16 ∧ runN (aH A e 0) (aN A e 5) 544 < m + 4) : sat (f_Inbox_take_53 e (0, S)) (fun S' => RSe (sN A e 5 (runN (aH A e 0) (aN A e 5) 544)) e S' ∧ frS e S S') := by
  obtain ⟨q1, q2, q3, q4⟩ := id h.2.1.2.1
  have hL0 : aN A e 5 ≤ runN (aH A e 0) (aN A e 5) 544 := runN_ge _ _ _
  have hL1 : runN (aH A e 0) (aN A e 5) 544 ≤ aN A e 5 + 16 := runN_le _ _ hH _ _ (by omega)
  have fin : ∀ S1 : St, (∀ y k, (y ≠ 21 ∨ k ≠ e) → S1 y k = S y k) → S1 21 e 0 = I (runN (aH A e 0) (aN A e 5) 544) → RSe (sN A e 5 (runN (aH A e 0) (aN A e 5) 544)) e S1 ∧ frS e S S1 := by
    intro S1 c c21
    generalize hL : runN (aH A e 0) (aN A e 5) 544 = L at *
    have n5 : aN (sN A e 5 L) e 5 = L := up2_eq
    refine ⟨RSx_H h he (fun i _ => rfl) (fun i _ hi => up2_ne2 hi) ⟨rfl, rfl⟩ rfl ⟨rfl, rfl, rfl⟩ (fun x i p q r => c x i (by omega)) (fun s hs => ?_) ?_ (by rw [n5]; exact c21) ⟨fun n p q r => ?_, fun k hk hz => ?_, fun n p q => ?_, fun k hk => ?_⟩ (rS_c h.2.1.2.2 (fun x a b => c x e (by omega))), fun x i hx => c x i (by
      by_cases z : x = 21 ∧ i = e
      · exact absurd (by rw [z.1, z.2]; exact ow_e (by decide)) hx
      · omega)⟩
    · rw [c 19 e (by omega), show aN (sN A e 5 L) e (16 + s) = aN A e (16 + s) from up2_ne2 (by omega)]
      exact sr_nextO h hs
    · rw [c 20 e (by omega)]
      have z := sr_unr h
      exact z
    · rw [n5] at q r
      rw [c 18 e (by omega)]
      show S 18 e (n % 32) = b01 (aH A e 1 n) ∧ (aH A e 1 n = true → wrS (aW A e n) n S1 (32 * e + n % 32 + 84))
      by_cases hn : n ≤ aN A e 5 + 16
      · obtain ⟨w1, w2⟩ := q1 n p (by omega) hn
        exact ⟨w1, fun y => wrS_cg (w2 y) (fun x a b => c x _ (by omega))⟩
      · have hf : aH A e 1 n = false := by
          cases hz : aH A e 1 n with
          | false => rfl
          | true => have := (hh1 n hz).1; omega
        rw [hf]
        refine ⟨?_, fun y => by cases y⟩
        by_cases hz : S 18 e (n % 32) = 0
        · exact hz
        · obtain ⟨m, y1, y2, y3, y4, y5⟩ := q2 _ (by omega) hz
          have := (hh1 m y5).2
          omega
    · rw [c 18 e (by omega)] at hz
      obtain ⟨m, y1, y2, y3, y4, y5⟩ := q2 k hk hz
      exact ⟨m, y1, by rw [n5]; exact (hh1 m y5).2, by rw [n5]; omega, y4, y5⟩
    · rw [n5] at p q
      rw [c 54 _ (by omega)]
      show S 54 (32 * e + n % 32 + 84) 0 = I n ↔ aH A e 0 n = true
      by_cases hn : n ≤ aN A e 5 + 16
      · exact q3 n (by omega) hn
      · obtain ⟨m, y1, y2⟩ := q4 (n % 32) (by omega)
        rw [y2]
        refine ⟨fun z => ?_, fun z => ?_⟩
        · have := (I_eq (by omega) (by omega)).mp z
          omega
        · have := hH n z
          omega
    · rw [c 54 _ (by omega), n5]
      obtain ⟨m, y1, y2⟩ := q4 k hk
      exact ⟨m, by omega, y2⟩
  unfold f_Inbox_take_53
  refine sat_iter (fun j x => ∃ i, i + j = 16 ∧ x.1 = I i ∧ (∀ y k, (y ≠ 21 ∨ k ≠ e) → x.2 y k = S y k) ∧ x.2 21 e 0 = I (aN A e 5 + i) ∧ runN (aH A e 0) (aN A e 5 + i) (544 - i) = runN (aH A e 0) (aN A e 5) 544) (P := fun S' => RSe (sN A e 5 (runN (aH A e 0) (aN A e 5) 544)) e S' ∧ frS e S S') ?_ (i := 16) (by decide) ⟨0, rfl, rfl, fun _ _ _ => rfl, sr_latest h, rfl⟩
  rintro j ⟨c, S1⟩ ⟨i, hij, e1, e2, e3, e4⟩
  replace e1 : c = I i := e1
  subst e1
  replace e2 : ∀ y k, (y ≠ 21 ∨ k ≠ e) → S1 y k = S y k := e2
  replace e3 : S1 21 e 0 = I (aN A e 5 + i) := e3
  have e3' : S1 cInbox_latest e 0 = I (aN A e 5 + i) := e3
  unfold f_Inbox_take_53_b
  dsimp only
  cases j with
  | zero =>
    have hi : i = 16 := by omega
    subst hi
    rw [if_neg (by decide)]
    refine .exW (.some (fin S1 e2 ?_))
    rw [e3, ← e4]
    show I (aN A e 5 + 16) = I (runN (aH A e 0) (aN A e 5 + 16) (527 + 1))
    rw [runN, if_neg (fun z => by have := hH _ z; omega)]
  | succ j =>
    rw [if_pos (show I i < 16 from (I_lt (b := 16) (by omega) (by decide)).mpr (by omega)), e3', show I (aN A e 5 + i) + 1 = I (aN A e 5 + i + 1) from I_add _ 1]
    obtain ⟨t1, t2⟩ := slot_in (n := aN A e 5 + i + 1) (by omega)
    have hs := q3 (aN A e 5 + i + 1) (by omega) (by omega)
    have hs' : (S1 cWord_number (32 * e + (aN A e 5 + i + 1) % 32 + 84) 0 = I (aN A e 5 + i + 1)) ↔ aH A e 0 (aN A e 5 + i + 1) = true := by
      rw [e2 54 _ (by omega)]
      exact hs
    unfold f_Inbox_has f_Inbox_has_24
    rw [e3', if_pos ((I_lt (by omega) (by omega)).mpr (by omega)), t1, t2, if_pos rfl]
    rw [show 544 - i = (543 - i) + 1 by omega, runN] at e4
    cases hz : aH A e 0 (aN A e 5 + i + 1) with
    | false =>
      rw [if_neg (fun z => by rw [hs'.mp z] at hz; cases hz), bdS, if_pos rfl]
      rw [if_neg (by rw [hz]; decide)] at e4
      exact .exW (.some (fin S1 e2 (by rw [e3, e4])))
    | true =>
      rw [if_pos (hs'.mpr hz), bdS, if_neg (by decide)]
      rw [if_pos hz] at e4
      refine .some ⟨j, by omega, i + 1, by omega, I_add i 1, fun y k hy => ?_, ?_, ?_⟩
      · dsimp only
        rw [up3_ob (c := 21) hy]
        exact e2 y k hy
      · dsimp only
        rw [up3_at, if_pos rfl]
        rfl
      · rw [show 544 - (i + 1) = 543 - i by omega]
        exact e4
/-- what the class needs of the model where a word is taken -/
def gOK (A : MA) (e n : Nat) (w : WC) : Prop := bM (m_put A e n w) e ∧ m_rdy e 544 (m_late (m_put A e n w) e) = sN (m_pass (m_put A e n w) e (n0 A e) (aN A e 5 + 17 - n0 A e)) e 5 (runN (aH (m_put A e n w) e 0) (aN A e 5) 544) ∧ (∀ m, aH (m_pass (m_put A e n w) e (n0 A e) (aN A e 5 + 17 - n0 A e)) e 1 m = true → runN (aH (m_put A e n w) e 0) (aN A e 5) 544 < m + 4) ∧ ∀ m, aH (m_put A e n w) e 0 m = true → m ≤ aN A e 5 + 16
theorem stp_H0 {A : MA} {e n : Nat} : aH (m_stp A e n) e 0 = aH A e 0 := by
  unfold m_stp
  split
  · funext i
    rw [move_H, if_neg (by omega)]
  · rfl
theorem pass_H0 {A : MA} {e n : Nat} : ∀ k, aH (m_pass A e n k) e 0 = aH A e 0
  | 0 => rfl
  | k + 1 => by rw [m_pass, stp_H0, pass_H0 k]
theorem S_get {A : MA} {e n o : Nat} {w : WC} {S : St} (h : RSe A e S) (he : e < 2) (ho : o < 36) (hw : wrS w n S o) (hn : n < 5000) (hl : aN A e 5 ≤ 511) (hG : ¬ m_drop A e n = true → gOK A e n w) : sat (f_Inbox_take e o S) (fun S' => RSe (m_get A e n w) e S' ∧ frS e S S') := by
  have hnum : S cWord_number o 0 = I n := hw.1.1
  unfold f_Inbox_take m_get
  rw [hnum, S_isdrop h (by omega) hn, bdS]
  by_cases hd : m_drop A e n = true
  · rw [if_pos hd, if_neg (by decide)]
    simp only [if_pos hd]
    exact .some ⟨h, frS.rfl⟩
  · rw [if_neg hd, if_pos rfl]
    simp only [if_neg hd]
    obtain ⟨g1, g2, g3, g4⟩ := hG hd
    have hd' : ¬ (n < 1 ∨ m_has A e n = true ∨ aN A e 5 + 16 < n ∨ (¬ aI A e 10 < I (gN A 1) ∧ n ≠ aN A e 5 + 1)) := fun z => hd (decide_eq_true z)
    have hn1 : aN A e 5 < n := by
      by_cases hz : aN A e 5 < n
      · exact hz
      · exact absurd (Or.inr (Or.inl (by unfold m_has; rw [decide_eq_true (by omega)]; rfl))) hd'
    have hn2 : n ≤ aN A e 5 + 16 := by
      by_cases hz : n ≤ aN A e 5 + 16
      · exact hz
      · exact absurd (Or.inr (Or.inr (Or.inl (by omega)))) hd'
    obtain ⟨s1, s2⟩ := slot_in (n := n) (by omega)
    rw [s1, s2, if_pos rfl, if_pos rfl]
    obtain ⟨p1, p2⟩ := S_put h he ho hw hn1 hn2 (by omega)
    have hunr : f_Word_copyFrom (32 * e + n % 32 + 84) o S cInbox_unreadyWords e 0 = aI A e 10 - sumR (aR A e) := by
      rw [wcp_fr (by omega)]
      exact sr_unr h
    rw [hunr]
    have n5 : aN (m_put A e n w) e 5 = aN A e 5 := rfl
    have hn0 : n0 (m_put A e n w) e = n0 A e := rfl
    refine .bd (S_mr p1 he g1) (fun S2 r2 => ?_)
    rw [hn0, n5] at r2
    have m5 := pass_5 (n := n0 A e) g1 (aN A e 5 + 17 - n0 A e)
    rw [n5] at m5
    have hbk := bM_pass (n := n0 A e) g1 (aN A e 5 + 17 - n0 A e)
    have h0 := pass_H0 (A := m_put A e n w) (e := e) (n := n0 A e) (aN A e 5 + 17 - n0 A e)
    have hsl := S_late r2.1 he (by rw [m5]; exact hl) (fun m hm => by rw [h0] at hm; rw [m5]; exact g4 m hm) (fun m hm => by
      rw [m5, h0]
      have := (hbk.2.1 m hm).1.2.1
      rw [m5] at this
      exact ⟨this, g3 m hm⟩)
    rw [m5, h0] at hsl
    refine hsl.imp (fun S3 r3 => ⟨?_, (p2.trans r2.2).trans r3.2⟩)
    rw [g2]
    exact r3.1
theorem S_gaps {A : MA} {e : Nat} {S : St} (h : RSe A e S) (hl : aN A e 5 ≤ 600) : f_Inbox_gaps e S = some (gapB (aH A e 0) (aN A e 5) 16) := by
  have hla : S cInbox_latest e 0 = I (aN A e 5) := sr_latest h
  have key : sat (f_Inbox_gaps e S) (fun r => r = gapB (aH A e 0) (aN A e 5) 16) := by
    unfold f_Inbox_gaps f_Inbox_gaps_4
    refine sat_upP (fun i x => x = (gapB (aH A e 0) (aN A e 5) i, I i)) 16 (fun i x hi hx => ?_) (fun x hx => ?_) rfl (by decide)
    · subst hx
      unfold f_Inbox_gaps_4_b f_Inbox_gaps_31
      dsimp only
      rw [if_pos (show I i < 16 from (I_lt (b := 16) (by omega) (by decide)).mpr hi), hla, show I (aN A e 5) + 1 = I (aN A e 5 + 1) from I_add _ 1, I_add, S_has h hl (by omega), bdS]
      have hm : m_has A e (aN A e 5 + 1 + i) = aH A e 0 (aN A e 5 + 1 + i) := by
        unfold m_has
        rw [decide_eq_false (by omega), decide_eq_true (by omega)]
        rfl
      rw [hm]
      cases hh : aH A e 0 (aN A e 5 + 1 + i) with
      | false =>
        rw [if_pos (by decide)]
        refine .some ?_
        rw [gapB, if_neg (by rw [hh]; decide)]
        exact congrArg (fun z => (_, z)) (I_add i 1)
      | true =>
        rw [if_neg (by decide)]
        refine .some ?_
        rw [gapB, if_pos hh]
        exact congrArg (fun z => (_, z)) (I_add i 1)
    · subst hx
      unfold f_Inbox_gaps_4_b
      dsimp only
      rw [if_neg (by decide)]
      exact .exW (.some rfl)
  obtain ⟨r, h1, rfl⟩ := key
  exact h1
theorem S_win {A : MA} {e : Nat} {S : St} (h : RSe A e S) : f_Inbox_window e S = m_free A e := by
  have hrm : S cInbox_room e 0 = I (gN A 1) := h.2.2.2.2.2.1
  unfold f_Inbox_window f_Math_max m_free
  rw [S_kept h, hrm]
  generalize I (gN A 1) - aI A e 10 = x
  by_cases h1 : x < 0
  · rw [if_pos h1, if_neg (fun z => by
      rw [Int32.lt_iff_toInt_lt] at z h1
      omega)]
  · rw [if_neg h1]
    by_cases h2 : 0 < x
    · rw [if_pos h2]
    · rw [if_neg h2]
      apply Int32.toInt_inj.mp
      rw [Int32.lt_iff_toInt_lt] at h1 h2
      omega
theorem S_data {A : MA} {e p n o : Nat} {w : WC} {S : St} (h : RSe A e S) (he : e < 2) (hp : p < 2) (ho : o < 36) (hw : wrS w n S o) (hn : n < 5000) (hl : aN A e 5 ≤ 511) (hG : ¬ m_drop A e n = true → gOK A e n w) (hbm : bP (m_get A e n w)) (hlm : aN (m_get A e n w) e 5 ≤ 527) : sat (f_End_takeData e (I p) o S) (fun S' => RSe (m_data A e p n w) e S' ∧ frS e S S') := by
  unfold f_End_takeData
  refine .bd (S_get h he ho hw hn hl hG) (fun S1 r1 => ?_)
  obtain ⟨o', S2, e1, ⟨o1, o2⟩, e2, e3, e4, e5, e6⟩ := S_post r1.1 he hp (hbm _ (by omega)) (k := 5)
  rw [e1]
  show sat (bd (f_Inbox_gaps e _) _) _
  have hla : S2 cInbox_latest e 0 = I (aN (m_get A e n w) e 5) := by
    rw [e5 21 e (by decide) (by decide) (by decide)]
    exact sr_latest r1.1
  rw [hla]
  have hS : ∀ S3 : St, (∀ x i, x ≠ 48 → x ≠ 26 → x ≠ 27 → x ≠ 29 → x ≠ 30 → S3 x i = S1 x i) → f_Inbox_gaps e S3 = f_Inbox_gaps e S1 ∧ f_Inbox_window e S3 = f_Inbox_window e S1 := by
    intro S3 c
    have hh : ∀ x, f_Inbox_has e x S3 = f_Inbox_has e x S1 := by
      intro x
      unfold f_Inbox_has f_Inbox_has_24
      rw [c 21 e (by decide) (by decide) (by decide) (by decide) (by decide), c 54 _ (by decide) (by decide) (by decide) (by decide) (by decide)]
    constructor
    · unfold f_Inbox_gaps f_Inbox_gaps_4
      have : f_Inbox_gaps_4_b e S3 = f_Inbox_gaps_4_b e S1 := by
        funext x
        obtain ⟨a, b⟩ := x
        unfold f_Inbox_gaps_4_b f_Inbox_gaps_31
        dsimp only
        rw [c 21 e (by decide) (by decide) (by decide) (by decide) (by decide), hh]
      rw [this]
    · unfold f_Inbox_window f_Inbox_kept
      rw [c 17 e (by decide) (by decide) (by decide) (by decide) (by decide), c 20 e (by decide) (by decide) (by decide) (by decide) (by decide), c 46 e (by decide) (by decide) (by decide) (by decide) (by decide)]
  rw [(hS (up3 S2 cPacket_number o' 0 (I (aN (m_get A e n w) e 5))) (fun x i a b d f g => by rw [up3_code f]; exact e5 x i a b d)).1, S_gaps r1.1 (by omega), bdS, (hS (up3 (up3 S2 cPacket_number o' 0 (I (aN (m_get A e n w) e 5))) cPacket_gaps o' 0 (gapB (aH (m_get A e n w) e 0) (aN (m_get A e n w) e 5) 16)) (fun x i a b d f g => by rw [up3_code g, up3_code f]; exact e5 x i a b d)).2, S_win r1.1]
  have r := e6 (m_sackP (m_get A e n w) e) (up3 (up3 (up3 S2 29 o' 0 (I (aN (m_get A e n w) e 5))) 30 o' 0 (gapB (aH (m_get A e n w) e 0) (aN (m_get A e n w) e 5) 16)) 31 o' 0 (m_free (m_get A e n w) e)) (fun x i hx => by
    unfold pcd at hx
    rw [up3_ob (by omega), up3_ob (by omega), up3_ob (by omega)]) (fun _ => by
    refine ⟨?_, ?_, fun z => ?_, fun z => ?_, fun z => ?_, fun _ => ⟨?_, ?_, ?_⟩, fun z => ?_⟩
    · rw [up3_code (by decide), up3_code (by decide), up3_code (by decide), e2]; rfl
    · rw [up3_code (by decide), up3_code (by decide), up3_code (by decide), e3]; rfl
    · exact absurd z (by show ¬ ((5 : Int32) = 0 ∨ (5 : Int32) = 1); decide)
    · exact absurd z (by show ¬ ((5 : Int32) = 1 ∨ (5 : Int32) = 2); decide)
    · exact absurd z (by show ¬ ((5 : Int32) = 4); decide)
    · rw [up3_code (by decide), up3_code (by decide), up3_at, if_pos rfl]; rfl
    · rw [up3_code (by decide), up3_at, if_pos rfl]; rfl
    · rw [up3_at, if_pos rfl]; rfl
    · exact absurd z (by show ¬ ((5 : Int32) = 6 ∨ (5 : Int32) = 7); decide))
  exact .some ⟨r.1, r1.2.trans r.2⟩
