/-! The inbox of the class. -/
theorem and31 {n : Nat} (hn : n < 2 ^ 31) : I n &&& 31 = I (n % 32) := by
  apply Int32.toBitVec_inj.mp
  rw [Int32.toBitVec_and]
  apply BitVec.eq_of_toNat_eq
  rw [BitVec.toNat_and]
  show (BitVec.ofNat 32 n).toNat &&& (BitVec.ofNat 32 31).toNat = (BitVec.ofNat 32 (n % 32)).toNat
  rw [BitVec.toNat_ofNat, BitVec.toNat_ofNat, BitVec.toNat_ofNat]
  have h1 : 31 % 2 ^ 32 = 2 ^ 5 - 1 := by decide
  rw [h1, Nat.and_two_pow_sub_one_eq_mod]
  omega
theorem slot_I {n : Nat} (hn : n < 2 ^ 31) : f_Inbox_slotOf (I n) = I (n % 32) := and31 hn
theorem slot_in {n : Nat} (hn : n < 2 ^ 31) : inb (f_Inbox_slotOf (I n)) 32 = true ∧ ix (f_Inbox_slotOf (I n)) = n % 32 := by
  rw [slot_I hn]
  exact ⟨inbT (by omega) (by decide), I_ix (by omega)⟩
theorem S_has {A : MA} {e n : Nat} {S : St} (h : RSe A e S) (hl : aN A e 5 ≤ 600) (hn : n ≤ aN A e 5 + 16) : f_Inbox_has e (I n) S = some (b01 (m_has A e n)) := by
  have hla : S cInbox_latest e 0 = I (aN A e 5) := sr_latest h
  obtain ⟨s1, s2⟩ := slot_in (n := n) (by omega)
  unfold f_Inbox_has f_Inbox_has_24 m_has
  rw [hla, s1, s2, if_pos rfl]
  by_cases h1 : aN A e 5 < n
  · have h3 := h.2.1.2.1.2.2.1 n h1 hn
    rw [if_pos ((I_lt (by omega) (by omega)).mpr h1), decide_eq_false (by omega), decide_eq_true hn]
    cases hh : aH A e 0 n with
    | true =>
      rw [if_pos (h3.mpr hh)]
      rfl
    | false =>
      rw [if_neg (fun z => by rw [h3.mp z] at hh; cases hh)]
      rfl
  · rw [if_neg (fun z => h1 ((I_lt (by omega) (by omega)).mp z)), decide_eq_true (by omega)]
    rfl
theorem S_kept {A : MA} {e : Nat} {S : St} (h : RSe A e S) : f_Inbox_kept e S = aI A e 10 := by
  have h1 : S cInbox_unreadyWords e 0 = aI A e 10 - sumR (aR A e) := sr_unr h
  have h2 : S cReadyList_words e 0 = sumR (aR A e) := h.2.1.2.2.2.1
  unfold f_Inbox_kept
  rw [h1, h2, Int32.sub_add_cancel]
theorem S_isdrop {A : MA} {e n : Nat} {S : St} (h : RSe A e S) (hl : aN A e 5 ≤ 600) (hn : n < 5000) : f_Inbox_isDropped e (I n) S = some (if m_drop A e n = true then 1 else 0) := by
  have hla : S cInbox_latest e 0 = I (aN A e 5) := sr_latest h
  have hrm : S cInbox_room e 0 = I (gN A 1) := h.2.2.2.2.2.1
  unfold f_Inbox_isDropped f_Inbox_isDropped_24 f_Inbox_isDropped_51
  rw [hla, hrm, S_kept h, show I (aN A e 5) + 16 = I (aN A e 5 + 16) from I_add _ 16, show I (aN A e 5) + 1 = I (aN A e 5 + 1) from I_add _ 1]
  by_cases h1 : n < 1
  · rw [if_pos (show I n < 1 from (I_lt (b := 1) (by omega) (by decide)).mpr h1), if_pos (show m_drop A e n = true from decide_eq_true (Or.inl h1))]
  · rw [if_neg (show ¬ I n < 1 from fun z => h1 ((I_lt (b := 1) (by omega) (by decide)).mp z))]
    by_cases h2 : aN A e 5 + 16 < n
    · rw [if_pos ((I_lt (by omega) (by omega)).mpr h2), if_pos (show m_drop A e n = true from decide_eq_true (Or.inr (Or.inr (Or.inl h2))))]
    · rw [if_neg (fun z => h2 ((I_lt (by omega) (by omega)).mp z)), S_has h hl (by omega), bdS]
      cases h3 : m_has A e n with
      | true => rw [if_neg (by decide), if_pos (show m_drop A e n = true from decide_eq_true (Or.inr (Or.inl h3)))]
      | false =>
        rw [if_pos (by decide)]
        by_cases h4 : aI A e 10 < I (gN A 1)
        · rw [if_pos h4, if_neg (show ¬ m_drop A e n = true from fun z => by
            rcases of_decide_eq_true z with z | z | z | z
            · exact h1 z
            · rw [h3] at z; cases z
            · exact h2 z
            · exact z.1 h4)]
        · rw [if_neg h4]
          by_cases h5 : n = aN A e 5 + 1
          · rw [if_pos (by rw [h5]), if_neg (show ¬ m_drop A e n = true from fun z => by
              rcases of_decide_eq_true z with z | z | z | z
              · exact h1 z
              · rw [h3] at z; cases z
              · exact h2 z
              · exact z.2 h5)]
          · rw [if_neg (fun z => h5 ((I_eq (by omega) (by omega)).mp z)), if_pos (show m_drop A e n = true from decide_eq_true (Or.inr (Or.inr (Or.inr ⟨h4, h5⟩))))]
theorem ow_sl {x e k : Nat} (hx : 54 ≤ x ∧ x ≤ 60) (hk : k < 32) (he : e < 2) : ownr x (32 * e + k + 84) = e := by
  unfold ownr
  rw [if_neg (by omega), if_neg (by omega), if_neg (by omega), if_neg (by omega), if_neg (by omega), if_neg (by omega), if_neg (by omega), if_pos hx, if_neg (by omega), if_neg (by omega)]
  omega
/-- the inbox is written anew: its words' cells, what waits, the count of what waits, and what is ready -/
theorem RSx_H {A A' : MA} {e : Nat} {S S' : St} (h : RSe A e S) (he : e < 2) (hI : ∀ i, i < 10 → aI A' e i = aI A e i) (hN : ∀ i, i < 16 → i ≠ 5 → aN A' e i = aN A e i) (hf : aB A' e = aB A e ∧ aO A' e = aO A e) (hP : aP A' = aP A) (hg : gN A' 1 = gN A 1 ∧ gN A' 2 = gN A 2 ∧ gI A' = gI A) (c : ∀ x i, (x < 18 ∨ 21 < x ∨ i ≠ e) → (x < 42 ∨ 46 < x ∨ i ≠ e) → (x < 54 ∨ 60 < x ∨ i < 84) → S' x i = S x i) (e19 : ∀ s, s < 3 → S' 19 e s = I (aN A' e (16 + s))) (e20 : S' 20 e 0 = aI A' e 10 - sumR (aR A' e)) (e21 : S' 21 e 0 = I (aN A' e 5)) (hH : hS A' e S') (hR : rS (aR A' e) e S') : RSe A' e S' := by
  obtain ⟨⟨⟨⟨e1, e2, e3, e4⟩, ⟨e5, e6⟩, ⟨e7, e8, e9⟩, ⟨e10, e11⟩, e12⟩, g2⟩, ⟨g3, g4, g5⟩, ⟨g6, g7⟩, g8⟩ := h
  have cE : ∀ x, (x < 18 ∨ (21 < x ∧ x < 42)) → S' x e = S x e := fun x hx => c x e (by omega) (by omega) (by omega)
  refine ⟨⟨⟨⟨?_, ?_, ?_, ?_⟩, ⟨?_, ?_⟩, ⟨?_, ?_, e21⟩, ⟨fun s hs => ?_, e19⟩, e20⟩, fun k => uS_c (g2 (by rw [← hI 0 (by decide)]; exact k)) (hN 2 (by decide) (by decide)) (hI 4 (by decide)) (hI 5 (by decide)) (fun p _ => ⟨⟨hN _ (by omega) (by omega), hN _ (by omega) (by omega), hN _ (by omega) (by omega)⟩, ⟨hI _ (by omega), hI _ (by omega)⟩, by rw [hf.1], by rw [hf.1], by rw [hf.1]⟩) (cE 10 (by omega)) (cE 14 (by omega)) (cE 25 (by omega)) (fun x q a b hq => c x _ (by omega) (by omega) (by omega))⟩, ⟨oS_c g3 (hN 3 (by decide) (by decide)) (hN 4 (by decide) (by decide)) hf.2 (fun x k a b hk => c x _ (by omega) (by omega) (by omega)) (fun x k a b hk => c x _ (by omega) (by omega) (by omega)), hH, hR⟩, ⟨?_, ?_⟩, kS_c g8 hg.1 hg.2.1 hg.2.2 (cE 11 (by omega)) (cE 12 (by omega)) (cE 17 (by omega)) (fun x a b => c x 36 (by omega) (by omega) (by omega))⟩
  · rw [cE 7 (by omega), hI 0 (by decide)]; exact e1
  · rw [cE 8 (by omega), hI 1 (by decide)]; exact e2
  · rw [cE 9 (by omega), hI 2 (by decide)]; exact e3
  · rw [cE 13 (by omega), hI 3 (by decide)]; exact e4
  · rw [cE 15 (by omega), hN 0 (by decide) (by decide)]; exact e5
  · rw [cE 16 (by omega), hN 1 (by decide) (by decide)]; exact e6
  · rw [cE 23 (by omega), hN 3 (by decide) (by decide)]; exact e7
  · rw [cE 24 (by omega), hN 4 (by decide) (by decide)]; exact e8
  · rw [cE 22 (by omega), hN (13 + s) (by omega) (by omega)]; exact e10 s hs
  · rw [hP]
    exact rwS_cg g6 (c 47 _ (by omega) (by omega) (by omega)) (c 48 _ (by omega) (by omega) (by omega)) (fun x hx i p q => c x i (by unfold pcd at hx; omega) (by unfold pcd at hx; omega) (by omega))
  · rw [hP]
    exact rwS_cg g7 (c 47 _ (by omega) (by omega) (by omega)) (c 48 _ (by omega) (by omega) (by omega)) (fun x hx i p q => c x i (by unfold pcd at hx; omega) (by unfold pcd at hx; omega) (by omega))
theorem S_put {A : MA} {e n o : Nat} {w : WC} {S : St} (h : RSe A e S) (he : e < 2) (ho : o < 36) (hw : wrS w n S o) (h1 : aN A e 5 < n) (h2 : n ≤ aN A e 5 + 16) (hl : aN A e 5 ≤ 600) : RSe (m_put A e n w) e (up3 (up3 (f_Word_copyFrom (32 * e + n % 32 + 84) o S) 18 e (n % 32) 1) 20 e 0 (aI A e 10 - sumR (aR A e) + 1)) ∧ frS e S (up3 (up3 (f_Word_copyFrom (32 * e + n % 32 + 84) o S) 18 e (n % 32) 1) 20 e 0 (aI A e 10 - sumR (aR A e) + 1)) := by
  obtain ⟨z1, z2⟩ := S_wcopy (S := S) (S1 := S) (u := 32 * e + n % 32 + 84) hw (by omega) (fun _ _ _ => rfl)
  have hm : n % 32 < 32 := Nat.mod_lt _ (by decide)
  have cc : ∀ x i, (x ≠ 18 ∨ i ≠ e) → (x ≠ 20 ∨ i ≠ e) → (x < 54 ∨ 60 < x ∨ i ≠ 32 * e + n % 32 + 84) → up3 (up3 (f_Word_copyFrom (32 * e + n % 32 + 84) o S) 18 e (n % 32) 1) 20 e 0 (aI A e 10 - sumR (aR A e) + 1) x i = S x i := fun x i a b d => by rw [up3_ob b, up3_ob a, z2 x i d]
  have c18 : ∀ k, up3 (up3 (f_Word_copyFrom (32 * e + n % 32 + 84) o S) 18 e (n % 32) 1) 20 e 0 (aI A e 10 - sumR (aR A e) + 1) 18 e k = if k = n % 32 then 1 else S 18 e k := fun k => by
    rw [up3_code (by decide), up3_at]
    by_cases hz : k = n % 32
    · rw [if_pos hz, if_pos hz]
    · rw [if_neg hz, if_neg hz, z2 18 e (by omega)]
  have cw : ∀ x, 54 ≤ x → x ≤ 60 → up3 (up3 (f_Word_copyFrom (32 * e + n % 32 + 84) o S) 18 e (n % 32) 1) 20 e 0 (aI A e 10 - sumR (aR A e) + 1) x = f_Word_copyFrom (32 * e + n % 32 + 84) o S x := fun x a b => by rw [up3_code (by omega), up3_code (by omega)]
  obtain ⟨q1, q2, q3, q4⟩ := id h.2.1.2.1
  have hH0 : ∀ k m, aH (m_put A e n w) e k m = if k < 2 ∧ m = n then true else aH A e k m := fun k m => by
    show (if e = e ∧ k < 2 ∧ m = n then true else aH A e k m) = _
    by_cases hz : k < 2 ∧ m = n
    · rw [if_pos ⟨rfl, hz⟩, if_pos hz]
    · rw [if_neg (fun z => hz z.2), if_neg hz]
  refine ⟨?_, fun x i hx => cc x i (by
    by_cases z : x = 18 ∧ i = e
    · exact absurd (by rw [z.1, z.2]; exact ow_e (by decide)) hx
    · omega) (by
    by_cases z : x = 20 ∧ i = e
    · exact absurd (by rw [z.1, z.2]; exact ow_e (by decide)) hx
    · omega) (by
    by_cases z : (54 ≤ x ∧ x ≤ 60) ∧ i = 32 * e + n % 32 + 84
    · exact absurd (by rw [z.2]; exact ow_sl z.1 hm he) hx
    · omega)⟩
  refine RSx_H h he (fun i hi => up2_ne2 (by omega)) (fun i _ _ => rfl) ⟨rfl, rfl⟩ rfl ⟨rfl, rfl, rfl⟩ (fun x i a b d => cc x i (by omega) (by omega) (by omega)) (fun s hs => ?_) ?_ ?_ ⟨fun m a b d => ?_, fun k hk hz => ?_, fun m a b => ?_, fun k hk => ?_⟩ ?_
  · rw [cc 19 e (by omega) (by omega) (by omega)]
    have z := sr_nextO h hs
    exact z
  · rw [up3_at, if_pos rfl]
    have : aI (m_put A e n w) e 10 = aI A e 10 + 1 := up2_eq
    rw [this]
    show aI A e 10 - sumR (aR A e) + 1 = aI A e 10 + 1 - sumR (aR A e)
    rw [Int32.sub_eq_add_neg, Int32.sub_eq_add_neg]
    ac_rfl
  · rw [cc 21 e (by omega) (by omega) (by omega)]
    have z := sr_latest h
    exact z
  · have b' : aN A e 5 < m + 4 := b
    have d' : m ≤ aN A e 5 + 16 := d
    rw [c18, hH0]
    by_cases hz : m = n
    · subst hz
      rw [if_pos rfl, if_pos ⟨by decide, rfl⟩]
      refine ⟨rfl, fun _ => ?_⟩
      have hW : aW (m_put A e m w) e m = w := up2_eq
      rw [hW]
      exact wrS_cg z1 (fun x p q => by rw [cw x p q])
    · have hne : m % 32 ≠ n % 32 := by omega
      rw [if_neg hne, if_neg (fun z => hz z.2)]
      obtain ⟨r1, r2⟩ := q1 m a b' d'
      refine ⟨r1, fun y => ?_⟩
      have hW : aW (m_put A e n w) e m = aW A e m := up2_ne2 hz
      rw [hW]
      exact wrS_cg (r2 y) (fun x p q => cc x _ (by omega) (by omega) (by omega))
  · rw [c18] at hz
    by_cases hk2 : k = n % 32
    · refine ⟨n, by omega, ?_, h2, hk2.symm, ?_⟩
      · show aN A e 5 < n + 4
        omega
      · rw [hH0, if_pos ⟨by decide, rfl⟩]
    · rw [if_neg hk2] at hz
      obtain ⟨m, y1, y2, y3, y4, y5⟩ := q2 k hk hz
      refine ⟨m, y1, y2, y3, y4, ?_⟩
      rw [hH0]
      by_cases hy : m = n
      · rw [if_pos ⟨by decide, hy⟩]
      · rw [if_neg (fun z => hy z.2)]
        exact y5
  · have a' : aN A e 5 < m := a
    have b' : m ≤ aN A e 5 + 16 := b
    rw [cw 54 (by decide) (by decide), hH0]
    by_cases hz : m = n
    · subst hz
      rw [if_pos ⟨by decide, rfl⟩]
      exact ⟨fun _ => rfl, fun _ => z1.1.1⟩
    · rw [if_neg (fun z => hz z.2), z2 54 _ (by omega)]
      exact q3 m a' b'
  · by_cases hz : k = n % 32
    · subst hz
      exact ⟨n, h2, by rw [cw 54 (by decide) (by decide)]; exact z1.1.1⟩
    · obtain ⟨m, y1, y2⟩ := q4 k hk
      exact ⟨m, y1, by rw [cw 54 (by decide) (by decide), z2 54 _ (by omega)]; exact y2⟩
  · exact rS_c h.2.1.2.2 (fun x a b => cc x e (by omega) (by omega) (by omega))
