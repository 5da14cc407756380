theorem T_echo2 {A : MA} {T : St} (h : RT A T) (hb : bP A) {p : Nat} (hp : p < 2) {q : Nat → Int32} : sat (f_M_echo_154 0 (I p) (q 3) (q 4) T) (fun T' => RT (m_echo2 A p q) T') := by
  unfold f_M_echo_154 m_echo2
  rw [if_pos (by decide), show ix (1 : Int32) = 1 by decide, rt_own h (by decide)]
  by_cases h1 : aI A 1 1 = q 4
  · rw [if_pos h1, if_pos (by decide), rt_other h (by decide)]
    by_cases h2 : aI A 1 2 = q 3
    · rw [if_pos h2, if_pos (show aI A 1 1 = q 4 ∧ aI A 1 2 = q 3 from ⟨h1, h2⟩), if_pos (by decide)]
      exact .bd (T_post h hb (e := 1) (p := p) (by decide) hp) (fun T' h' => .some h')
    · rw [if_neg h2, if_neg (fun z => h2 z.2)]
      exact .some h
  · rw [if_neg h1, if_neg (fun z => h1 z.1)]
    exact .some h
theorem m_empty_aP (A : MA) (e : Nat) : aP (m_empty A e) = aP A := rfl
theorem T_echo {A : MA} {T : St} (h : RT A T) (hb : bP A) (hn : (gT A 1).length < 512) (hr : bR A 1) {p : Nat} (hp : p < 2) {q : Nat → Int32} (hq : ∀ j, j < 8 → T 1007 0 j = q j) : sat (f_M_echo 0 (I p) T) (fun T' => RT (m_echo A p q) T') := by
  have key : ∀ s0 : Int32, (s0 = 0 → ¬ m_right A q = true) → (s0 ≠ 0 → (m_right A q = true ↔ q 0 = q 4 ∧ ¬ lg_cmp (Int32.toInt64 (I (gN A 0)) - Int32.toInt64 (q 5)) (Int64.ofNat 0) < 0 ∧ ¬ 0 < lg_cmp (Int32.toInt64 (I (gN A 0)) - Int32.toInt64 (q 5)) (Int32.toInt64 20))) → sat (f_M_echo_69 0 (I p) (q 3) (q 4) (Int32.toInt64 (I (gN A 0)) - Int32.toInt64 (q 5)) s0 T) (fun T' => RT (m_echo A p q) T') := by
    intro s0 k0 k1
    unfold f_M_echo_69 m_echo
    by_cases hs : s0 = 0
    · rw [if_pos hs, if_neg (k0 hs)]
      exact .some h
    · rw [if_neg hs, if_pos (by decide), show ix (0 : Int32) = 0 by decide, hq 0 (by decide)]
      by_cases c1 : q 0 = q 4
      · rw [if_pos c1]
        by_cases c2 : lg_cmp (Int32.toInt64 (I (gN A 0)) - Int32.toInt64 (q 5)) (Int64.ofNat 0) < 0
        · rw [if_pos c2, if_neg (fun z => ((k1 hs).mp z).2.1 c2)]
          exact .some h
        · rw [if_neg c2]
          by_cases c3 : 0 < lg_cmp (Int32.toInt64 (I (gN A 0)) - Int32.toInt64 (q 5)) (Int32.toInt64 20)
          · rw [if_pos c3, if_neg (fun z => ((k1 hs).mp z).2.2 c3)]
            exact .some h
          · rw [if_neg c3, if_pos ((k1 hs).mpr ⟨c1, c2, c3⟩), if_pos (by decide), show ix (1 : Int32) = 1 by decide, rt_state h (by decide)]
            unfold m_echo1
            by_cases d1 : aI A 1 0 = 0
            · rw [if_pos d1]
              refine .bd (T_among_wasUp h (by omega)) (fun r hr' => ?_)
              subst hr'
              by_cases hm : q 4 ∈ gT A 1
              · rw [decide_eq_true hm, if_neg (by decide), if_neg (fun z => z.2 hm)]
                exact T_echo2 h hb hp
              · rw [decide_eq_false hm, if_pos (show b01 false = 0 by decide), if_pos (show aI A 1 0 = 0 ∧ q 4 ∉ gT A 1 from ⟨d1, hm⟩)]
                have hN : T cM_ups 0 0 = I (gT A 1).length := h.2.2.1.2.2.1
                rw [hN]
                simp (disch := omega) only [inbT, I_ix, if_true, I_lit, I_add]
                refine .bd (T_comeUp (T_push_wasUp h) (e := 1) (by decide) hr) (fun T' h' => ?_)
                exact T_echo2 h' hb hp
            · rw [if_neg d1, if_neg (fun z => d1 z.1)]
              exact T_echo2 h hb hp
      · rw [if_neg c1, if_neg (fun z => c1 ((k1 hs).mp z).1)]
        exact .some h
  unfold f_M_echo f_M_echo_68
  rw [if_pos (by decide), if_pos (by decide), if_pos (by decide), if_pos (by decide), show ix (3 : Int32) = 3 by decide, show ix (4 : Int32) = 4 by decide, show ix (5 : Int32) = 5 by decide, show ix (6 : Int32) = 6 by decide, hq 3 (by decide), hq 4 (by decide), hq 5 (by decide), hq 6 (by decide), T_seal h, T_tagFor h, rt_now h]
  by_cases c1 : q 6 = kSeal (gI A 4) (q 3) (q 4) (q 5)
  · rw [if_pos c1]
    by_cases c2 : q 3 = 0
    · rw [if_pos c2]
      exact key 0 (fun _ z => (of_decide_eq_true z).2.1 c2) (fun z => absurd rfl z)
    · rw [if_neg c2]
      by_cases c3 : q 4 = kTag (gI A 4) (q 3)
      · rw [if_pos c3]
        refine key 1 (fun z => absurd z (by decide)) (fun _ => ⟨fun z => (of_decide_eq_true z).2.2.2, fun z => decide_eq_true ⟨c1, c2, c3, z⟩⟩)
      · rw [if_neg c3]
        exact key 0 (fun _ z => c3 (of_decide_eq_true z).2.2.1) (fun z => absurd rfl z)
  · rw [if_neg c1]
    exact key 0 (fun _ z => c1 (of_decide_eq_true z).1) (fun z => absurd rfl z)
def m_forge (A : MA) (e : Nat) (k t a b c d : Int32) : MA := m_post A (2 * (1 - e)) (if k = 0 then pkt 0 0 a 0 0 0 0 else if k = 2 then pkt t 2 0 a b c d else pkt t k 0 0 0 0 0)
def m_forgeN (A : MA) (e : Nat) (k t : Int32) : Prop := (k ≠ 0 ∧ k ≠ 2 ∧ k ≠ 8) ∨ (k ≠ 0 ∧ t = aI A e 1) ∨ (aP A (2 * (1 - e))).length = 8
theorem T_forge {A : MA} {T : St} (h : RT A T) (hb : bP A) {e : Nat} (he : e < 2) {k t a b c d : Int32} : sat (f_M_forge 0 (I e) k t a b c d T) (fun x => (m_forgeN A e k t ∧ x.1 = 0 ∧ RT A x.2) ∨ (¬ m_forgeN A e k t ∧ x.1 = 1 ∧ RT (m_forge A e k t a b c d) x.2)) := by
  have hf := T_full h hb (e := 1 - e) (p := 0) (by omega) (by decide)
  have e1 : (1 : Int32) - I e = I (1 - e) := I_sub (a := 1) (by omega)
  have r1 : (2 : Int32) * I (1 - e) = I (2 * (1 - e)) := I_mul 2 (1 - e)
  have k36 : (k = 0 ∨ k = 2 ∨ k = 8) → ¬ (k ≠ 0 ∧ t = aI A e 1) → sat (f_M_forge_36 0 (I e) k t a b c d T) (fun x => (m_forgeN A e k t ∧ x.1 = 0 ∧ RT A x.2) ∨ (¬ m_forgeN A e k t ∧ x.1 = 1 ∧ RT (m_forge A e k t a b c d) x.2)) := by
    intro hk ht
    unfold f_M_forge_36
    rw [e1, show (0 : Int32) = I 0 from rfl, hf, bdS, Nat.add_zero]
    by_cases h8 : (aP A (2 * (1 - e))).length = 8
    · rw [if_pos h8, if_neg (by decide)]
      exact .some (Or.inl ⟨Or.inr (Or.inr h8), rfl, h⟩)
    · rw [if_neg h8, if_pos (by decide)]
      have hN : ¬ m_forgeN A e k t := fun z => z.elim (fun z => hk.elim z.1 (fun q => q.elim z.2.1 z.2.2)) (fun z => z.elim ht h8)
      unfold m_forge
      rcases hk with rfl | rfl | rfl
      · rw [if_pos (by decide)]
        unfold f_M_forge_63 f_M_forge_74 f_M_forge_85
        rw [if_pos (by decide), if_neg (by decide)]
        refine .bd (T_post h hb (e := 1 - e) (p := 0) (by omega) (by decide)) (fun T' h' => ?_)
        rw [if_neg (by decide)]
        exact .some (Or.inr ⟨hN, rfl, h'⟩)
      · rw [if_neg (by decide)]
        unfold f_M_forge_63 f_M_forge_74 f_M_forge_85
        rw [if_neg (by decide), if_pos (by decide), e1, r1]
        refine T_pm h hb (e := 1 - e) (p := 0) (by omega) (by decide) f_M_forge_109 (c := b) (d := c) (x := d) (fun T' h' hc => ?_) (fun T' hc => absurd hc h8) (fun T' h' => ?_)
        · rw [if_pos (by decide), Nat.add_zero]
        · exact .some (Or.inr ⟨hN, rfl, h'⟩)
      · rw [if_neg (by decide)]
        unfold f_M_forge_63 f_M_forge_74 f_M_forge_85
        rw [if_neg (by decide), if_neg (by decide)]
        refine .bd (T_post h hb (e := 1 - e) (p := 0) (by omega) (by decide)) (fun T' h' => ?_)
        rw [if_neg (by decide)]
        exact .some (Or.inr ⟨hN, rfl, h'⟩)
  have k22 : (k = 0 ∨ k = 2 ∨ k = 8) → sat (f_M_forge_22 0 (I e) k t a b c d T) (fun x => (m_forgeN A e k t ∧ x.1 = 0 ∧ RT A x.2) ∨ (¬ m_forgeN A e k t ∧ x.1 = 1 ∧ RT (m_forge A e k t a b c d) x.2)) := by
    intro hk
    unfold f_M_forge_22
    by_cases h0 : k = 0
    · rw [if_pos h0]
      exact k36 hk (fun z => z.1 h0)
    · rw [if_neg h0, if_pos (inbT he (by decide)), I_ix (by omega), rt_own h he]
      by_cases ht : t = aI A e 1
      · rw [if_pos ht]
        exact .some (Or.inl ⟨Or.inr (Or.inl ⟨h0, ht⟩), rfl, h⟩)
      · rw [if_neg ht]
        exact k36 hk (fun z => ht z.2)
  unfold f_M_forge
  rw [if_neg (two_I he)]
  by_cases h0 : k = 0
  · rw [if_pos h0]; exact k22 (Or.inl h0)
  · rw [if_neg h0]
    by_cases h2 : k = 2
    · rw [if_pos h2]; exact k22 (Or.inr (Or.inl h2))
    · rw [if_neg h2]
      by_cases h8 : k = 8
      · rw [if_pos h8]; exact k22 (Or.inr (Or.inr h8))
      · rw [if_neg h8]
        exact .some (Or.inl ⟨Or.inl ⟨h0, h2, h8⟩, rfl, h⟩)
