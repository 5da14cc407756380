def m_stp (A : MA) (e n : Nat) : MA := if m_cand A e n = true then m_move A e n (m_whl A e n) else A
def m_pass (A : MA) (e n : Nat) : Nat → MA
  | 0 => A
  | k + 1 => m_stp (m_pass A e n k) e (n + k)
theorem bM_stp {A : MA} {e n : Nat} (h : bM A e) : bM (m_stp A e n) e := by
  unfold m_stp
  split
  · rename_i hc
    obtain ⟨⟨hh, _⟩, hp, _⟩ := cand_if.mp hc
    exact bM_move h hh hp
  · exact h
theorem stp_5 {A : MA} {e n : Nat} (h : bM A e) : aN (m_stp A e n) e 5 = aN A e 5 := by
  unfold m_stp
  split
  · rename_i hc
    obtain ⟨⟨hh, _⟩, hp, _⟩ := cand_if.mp hc
    exact m_move_5 A e n _ (h.2.1 n hh).2.1
  · rfl
theorem bM_pass {A : MA} {e n : Nat} (h : bM A e) : ∀ k, bM (m_pass A e n k) e
  | 0 => h
  | k + 1 => bM_stp (bM_pass h k)
theorem pass_5 {A : MA} {e n : Nat} (h : bM A e) : ∀ k, aN (m_pass A e n k) e 5 = aN A e 5
  | 0 => rfl
  | k + 1 => by rw [m_pass, stp_5 (bM_pass h k), pass_5 h k]
theorem S_stp {A : MA} {e n : Nat} {S : St} (h : RSe A e S) (he : e < 2) (hb : bM A e) (h1 : 1 ≤ n) (h2 : aN A e 5 < n + 4) (h3 : n ≤ aN A e 5 + 16) : sat (f_Inbox_makeReady_9_b e (I n, S)) (Sum.elim (fun x => x.1 = I (n + 1) ∧ RSe (m_stp A e n) e x.2 ∧ frS e S x.2) (fun _ => False)) := by
  have hla : S cInbox_latest e 0 = I (aN A e 5) := sr_latest h
  have h5 := hb.2.2.2.2
  obtain ⟨s1, s2⟩ := slot_in (n := n) (by omega)
  unfold f_Inbox_makeReady_9_b f_Inbox_makeReady_52
  dsimp only
  rw [hla, show I (aN A e 5) + 16 = I (aN A e 5 + 16) from I_add _ 16, if_neg (fun z => by have := (I_lt (by omega) (by omega)).mp z; omega)]
  refine .bd (S_whl h (by omega) h1 h2 h3 hb.1 (fun m hm => (hb.2.1 m hm).1.2.1)) (fun r hr => ?_)
  subst hr
  rw [s1, s2, if_pos rfl, show I n + 1 = I (n + 1) from I_add n 1]
  have no : m_cand A e n = false → sat (some (Sum.inl (I (n + 1), S)) : Option ((Int32 × St) ⊕ St)) (Sum.elim (fun x => x.1 = I (n + 1) ∧ RSe (m_stp A e n) e x.2 ∧ frS e S x.2) (fun _ => False)) := by
    intro hz
    refine .some ⟨rfl, ?_, frS.rfl⟩
    unfold m_stp
    rw [if_neg (by rw [hz]; decide)]
    exact h
  by_cases hc : aH A e 1 n = true ∧ (aW A e n).2.2.2.1 = true
  · rw [if_pos hc]
    obtain ⟨_, a4, a5⟩ := hb.2.1 n hc.1
    have hno := hb.2.2.1 _ a4
    have hwb : m_whl A e n ≤ 544 := by
      have := whlN_le A e n (aN A e 5 + 17 - n) 0
      unfold m_whl
      omega
    by_cases hp : 0 < m_whl A e n
    · rw [if_pos (show (0 : Int32) < I (m_whl A e n) from (I_lt (a := 0) (by decide) (by omega)).mpr hp), S_may2 h h1 h2 h3 hc.1 a4 a5 (by omega), bdS]
      by_cases hm : (aW A e n).2.2.2.2.2 = true ∨ (aW A e n).2.2.1 = aN A e (16 + (aW A e n).2.1)
      · rw [if_pos hm, if_neg (by decide)]
        have hcd := cand_if.mpr ⟨hc, hp, hm⟩
        refine .bd (S_move h he hb hcd) (fun S1 r1 => .some ⟨rfl, ?_, r1.2⟩)
        unfold m_stp
        rw [if_pos hcd]
        exact r1.1
      · rw [if_neg hm, if_pos rfl]
        refine no ?_
        cases hz : m_cand A e n with
        | false => rfl
        | true => exact absurd (cand_if.mp hz).2.2 hm
    · rw [if_neg (show ¬ (0 : Int32) < I (m_whl A e n) from fun z => hp ((I_lt (a := 0) (by decide) (by omega)).mp z))]
      refine no ?_
      cases hz : m_cand A e n with
      | false => rfl
      | true => exact absurd (cand_if.mp hz).2.1 hp
  · rw [if_neg hc, if_neg (by decide)]
    refine no ?_
    cases hz : m_cand A e n with
    | false => rfl
    | true => exact absurd (cand_if.mp hz).1 hc
/-- below the first number there is nothing -/
theorem S_neg {A : MA} {e d : Nat} {S : St} (h : RSe A e S) (hb : bM A e) (hd : d ≤ 3) (hl : aN A e 5 ≤ d) : sat (f_Inbox_makeReady_9_b e (I d - 3, S)) (Sum.elim (fun x => x.1 = I d - 3 + 1 ∧ x.2 = S) (fun _ => False)) := by
  have hla : S cInbox_latest e 0 = I (aN A e 5) := sr_latest h
  obtain ⟨q1, q2, q3, q4⟩ := h.2.1.2.1
  have hz : ∀ k, k = 0 ∨ (29 ≤ k ∧ k < 32) → S 18 e k = 0 := by
    intro k hk
    by_cases hz : S 18 e k = 0
    · exact hz
    · obtain ⟨m, y1, y2, y3, y4, y5⟩ := q2 k (by omega) hz
      omega
  have main : ∀ (x : Int32) (k : Nat), (k = 0 ∨ (29 ≤ k ∧ k < 32)) → f_Inbox_slotOf x = I k → f_Inbox_slotOf (x + 0) = I k → ¬ I (aN A e 5 + 16) < x → sat (f_Inbox_makeReady_9_b e (x, S)) (Sum.elim (fun y => y.1 = x + 1 ∧ y.2 = S) (fun _ => False)) := by
    intro x k hk hs hs2 hx
    have hz' : S cInbox_unready e k = 0 := hz k hk
    unfold f_Inbox_makeReady_9_b f_Inbox_makeReady_52 f_Inbox_wholeLength
    dsimp only
    rw [hla, show I (aN A e 5) + 16 = I (aN A e 5 + 16) from I_add _ 16, if_neg hx, hs, inbT (show k < 32 by omega) (by decide), if_pos rfl, I_ix (by omega)]
    have hwl : sat (if nz (S cWord_first (32 * e + k + 84) 0) = 0 then some (0 : Int32) else f_Inbox_wholeLength_19 e x S 0) (fun r => r = 0) := by
      split
      · exact .some rfl
      · unfold f_Inbox_wholeLength_19
        refine sat_upP (fun i y => y = I i) 0 (fun i y hi hy => absurd hi (by omega)) (fun y hy => ?_) rfl (by decide)
        subst hy
        unfold f_Inbox_wholeLength_19_b f_Inbox_wholeLength_55
        rw [if_pos (by decide), show I 0 = 0 from rfl, hs2, inbT (show k < 32 by omega) (by decide), if_pos rfl, I_ix (by omega), hz', if_pos (by decide)]
        exact .exW (.some rfl)
    refine .bd hwl (fun r hr => ?_)
    subst hr
    rw [if_neg (by decide)]
    exact .some ⟨rfl, rfl⟩
  have hlt : ∀ x : Int32, x.toInt ≤ 0 → ¬ I (aN A e 5 + 16) < x := fun x hx z => by
    rw [Int32.lt_iff_toInt_lt, I_toInt (by omega)] at z
    omega
  have : d = 0 ∨ d = 1 ∨ d = 2 ∨ d = 3 := by omega
  rcases this with rfl | rfl | rfl | rfl
  · exact main _ 29 (by omega) (by decide) (by decide) (hlt _ (by decide))
  · exact main _ 30 (by omega) (by decide) (by decide) (hlt _ (by decide))
  · exact main _ 31 (by omega) (by decide) (by decide) (hlt _ (by decide))
  · exact main _ 0 (by omega) (by decide) (by decide) (hlt _ (by decide))
def n0 (A : MA) (e : Nat) : Nat := max 1 (aN A e 5 - 3)
theorem S_mr {A : MA} {e : Nat} {S : St} (h : RSe A e S) (he : e < 2) (hb : bM A e) : sat (f_Inbox_makeReady e S) (fun S' => RSe (m_pass A e (n0 A e) (aN A e 5 + 17 - n0 A e)) e S' ∧ frS e S S') := by
  have hla : S cInbox_latest e 0 = I (aN A e 5) := sr_latest h
  have h5 := hb.2.2.2.2
  unfold f_Inbox_makeReady f_Inbox_makeReady_9
  rw [hla]
  have xs : ∀ i, I (aN A e 5) + 1 - 4 + I i = I (aN A e 5 + i) - 3 := by
    intro i
    rw [← I_add, Int32.sub_eq_add_neg, Int32.sub_eq_add_neg]
    have : (1 : Int32) + -4 = -3 := by decide
    rw [Int32.add_assoc (I (aN A e 5)), this]
    ac_rfl
  have x0 : I (aN A e 5) + 1 - 4 = I (aN A e 5 + 0) - 3 := by
    have := xs 0
    rw [show I (aN A e 5) + 1 - 4 + I 0 = I (aN A e 5) + 1 - 4 from Int32.add_zero _] at this
    exact this
  have nx : ∀ d, I d - 3 + 1 = I (d + 1) - 3 := by
    intro d
    rw [← I_add, Int32.sub_eq_add_neg, Int32.sub_eq_add_neg]
    show I d + -3 + 1 = I d + 1 + -3
    ac_rfl
  rw [x0]
  refine sat_upP (fun i x => x.1 = I (aN A e 5 + i) - 3 ∧ RSe (m_pass A e (n0 A e) (aN A e 5 + i - 3 - n0 A e)) e x.2 ∧ frS e S x.2) 20 (fun i x hi hx => ?_) (fun x hx => ?_) ⟨rfl, ?_, frS.rfl⟩ (by decide)
  · obtain ⟨c, S1⟩ := x
    obtain ⟨rfl, q1, q2⟩ := hx
    replace q1 : RSe (m_pass A e (n0 A e) (aN A e 5 + i - 3 - n0 A e)) e S1 := q1
    replace q2 : frS e S S1 := q2
    have hbk := bM_pass (n := n0 A e) hb (aN A e 5 + i - 3 - n0 A e)
    have n5 := pass_5 (n := n0 A e) hb (aN A e 5 + i - 3 - n0 A e)
    by_cases hd : aN A e 5 + i ≤ 3
    · refine (S_neg q1 hbk hd (by rw [n5]; omega)).imp (fun y hy => ?_)
      cases y with
      | inr _ => exact hy
      | inl y =>
        obtain ⟨y1, y2⟩ := hy
        refine ⟨?_, ?_, by rw [y2]; exact q2⟩
        · rw [y1, nx]; rfl
        · rw [y2]
          have : aN A e 5 + (i + 1) - 3 - n0 A e = aN A e 5 + i - 3 - n0 A e := by unfold n0; omega
          rw [this]
          exact q1
    · have en : I (aN A e 5 + i) - 3 = I (aN A e 5 + i - 3) := I_sub (b := 3) (by omega)
      have hn0 : n0 A e + (aN A e 5 + i - 3 - n0 A e) = aN A e 5 + i - 3 := by unfold n0; omega
      rw [en]
      refine (S_stp q1 he hbk (n := aN A e 5 + i - 3) (by omega) (by rw [n5]; omega) (by rw [n5]; omega)).imp (fun y hy => ?_)
      cases y with
      | inr _ => exact hy
      | inl y =>
        obtain ⟨y1, y2, y3⟩ := hy
        refine ⟨?_, ?_, q2.trans y3⟩
        · rw [y1, show aN A e 5 + i - 3 + 1 = aN A e 5 + (i + 1) - 3 by omega]
          exact (I_sub (b := 3) (by omega)).symm
        · have : aN A e 5 + (i + 1) - 3 - n0 A e = (aN A e 5 + i - 3 - n0 A e) + 1 := by unfold n0; omega
          rw [this, m_pass, hn0]
          exact y2
  · obtain ⟨c, S1⟩ := x
    obtain ⟨rfl, q1, q2⟩ := hx
    replace q1 : RSe (m_pass A e (n0 A e) (aN A e 5 + 20 - 3 - n0 A e)) e S1 := q1
    have n5 := pass_5 (n := n0 A e) hb (aN A e 5 + 20 - 3 - n0 A e)
    have hla1 : S1 cInbox_latest e 0 = I (aN A e 5) := by
      have z := sr_latest q1
      rw [n5] at z
      exact z
    unfold f_Inbox_makeReady_9_b
    dsimp only
    rw [hla1, show I (aN A e 5) + 16 = I (aN A e 5 + 16) from I_add _ 16, show I (aN A e 5 + 20) - 3 = I (aN A e 5 + 20 - 3) from I_sub (b := 3) (by omega), if_pos ((I_lt (by omega) (by omega)).mpr (by omega))]
    refine .exW (.some ⟨?_, q2⟩)
    rw [show aN A e 5 + 20 - 3 - n0 A e = aN A e 5 + 17 - n0 A e by omega] at q1
    exact q1
  · have : aN A e 5 + 0 - 3 - n0 A e = 0 := by unfold n0; omega
    dsimp only
    rw [this]
    exact h
