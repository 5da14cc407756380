/-! Class and reference, call by call. -/
/-- both stand for one model, c calls from the start -/
def PR (c : Nat) (S T : St) : Prop := ∃ A G O, RT A T ∧ RS A S ∧ K A c G O z1
/-- a call that may change something -/
def st2 (c : Nat) (a b : Option (Int32 × St)) : Prop := sat a (fun x => sat b (fun y => x.1 = y.1 ∧ PR (c + 1) x.2 y.2))
theorem PR_up {c : Nat} {S T : St} (h : PR c S T) : PR (c + 1) S T := by
  obtain ⟨A, G, O, h1, h2, h3⟩ := h
  exact ⟨A, G, O, h1, h2, K_up (Nat.le_succ c) h3⟩
theorem st2_same {c : Nat} {S T : St} (h : PR c S T) (r : Int32) : st2 c (some (r, S)) (some (r, T)) := .some (.some ⟨rfl, PR_up h⟩)
theorem end_cs (a : Int32) : (∃ e, e < 2 ∧ a = I e) ∨ (f_M_isTwo a = 0 ∧ f_L_isEnd a = 0 ∧ f_L_isPath a = 0) := by
  by_cases h : f_M_isTwo a = 0
  · right
    have n2 : ∀ e, e < 2 → a ≠ I e := fun e he hz => two_I he (hz ▸ h)
    refine ⟨h, ?_, ?_⟩
    · unfold f_L_isEnd
      by_cases h0 : a < 0
      · rw [if_pos h0]; rfl
      · rw [if_neg h0]
        by_cases h1 : a < 2
        · have h1' : ¬ I 1 < a := by
            rw [Int32.lt_iff_toInt_lt] at h1 ⊢
            have e2 : (2 : Int32).toInt = 2 := by decide
            have e1 : (I 1).toInt = 1 := by decide
            omega
          obtain ⟨j, hj, hz⟩ := I_range (b := 1) (by decide) h0 h1'
          exact absurd hz (n2 j (by omega))
        · rw [if_neg h1]; rfl
    · unfold f_L_isPath
      by_cases h0 : a < 0
      · rw [if_pos h0]; rfl
      · rw [if_neg h0]
        by_cases h1 : a < 2
        · have h1' : ¬ I 1 < a := by
            rw [Int32.lt_iff_toInt_lt] at h1 ⊢
            have e2 : (2 : Int32).toInt = 2 := by decide
            have e1 : (I 1).toInt = 1 := by decide
            omega
          obtain ⟨j, hj, hz⟩ := I_range (b := 1) (by decide) h0 h1'
          exact absurd hz (n2 j (by omega))
        · rw [if_neg h1]; rfl
  · exact Or.inl (two_eq h)
theorem str_cs (a : Int32) : (∃ s, s < 3 ∧ a = I s) ∨ (f_M_isStream a = 0 ∧ f_L_isStream a = 0 ∧ (a < 0 ∨ 2 < a)) := by
  by_cases h : f_M_isStream a = 0
  · right
    have hc : a < 0 ∨ 2 < a := by
      apply Classical.byContradiction
      intro hn
      obtain ⟨j, hj, hz⟩ := I_range (k := a) (b := 2) (by decide) (fun z => hn (Or.inl z)) (fun z => hn (Or.inr z))
      exact str_I (show j < 3 by omega) (hz ▸ h)
    refine ⟨h, ?_, hc⟩
    unfold f_L_isStream
    by_cases h0 : a < 0
    · rw [if_pos h0]; rfl
    · rw [if_neg h0]
      have h2 := hc.resolve_left h0
      rw [if_neg (fun z => by
        rw [Int32.lt_iff_toInt_lt] at z h2
        have e2 : (2 : Int32).toInt = 2 := by decide
        have e3 : (3 : Int32).toInt = 3 := by decide
        omega)]
      rfl
  · exact Or.inl (str_eq h)
/-- from what both sides do with the same model -/
theorem st2_mk {c : Nat} {a b : Option (Int32 × St)} {r : Int32} {B : MA} {G : HG} {O : HO} (hb : sat b (fun y => y.1 = r ∧ RT B y.2)) (ha : sat a (fun x => x.1 = r ∧ RS B x.2)) (hk : K B (c + 1) G O z1) : st2 c a b := by
  obtain ⟨x, rfl, x1, x2⟩ := ha
  obtain ⟨y, rfl, y1, y2⟩ := hb
  exact .some (.some ⟨x1.trans y1.symm, B, G, O, y2, x2, hk⟩)
theorem P_open {c : Nat} {S T : St} (h : PR c S T) (hc : c ≤ 511) (t : Int32) : st2 c (f_L_open 0 t S) (f_M_open 0 t T) := by
  obtain ⟨A, G, O, hT, hS, k⟩ := h
  have hl : (gT A 0).length < 512 := by have := k.1.2.2.1.1; omega
  refine st2_mk (T_open hT k.1.2.1.1 hl) (S_open hS k.1.2.1.1 hl) (G := G) (O := O) ?_
  split
  · exact K_up (Nat.le_succ c) k
  · rename_i hn
    have h0 : aI A 0 0 = 0 := Classical.byContradiction (fun z => hn (Or.inl z))
    exact K_start (Nat.le_refl 1) k h0 (fun z => hn (Or.inr (Or.inl z))) (fun z => hn (Or.inr (Or.inr z))) (by omega)
theorem P_send {c : Nat} {S T : St} (h : PR c S T) (hc : c ≤ 511) (a b v n : Int32) {u : Int32} (hu : u = 0 ∨ u = 1) : st2 c (f_L_send 0 a b u v n S) (f_M_send 0 a b u v n T) := by
  have no : ∀ x y, x = some (0, S) → y = some (0, T) → st2 c x y := fun x y hx hy => by rw [hx, hy]; exact st2_same h 0
  rcases end_cs a with ⟨e, he, rfl⟩ | ⟨z1', z2, z3⟩
  · rcases str_cs b with ⟨s, hs, rfl⟩ | ⟨y1, y2, y3⟩
    · have ns : ¬ (I s < 0) ∧ ¬ ((2 : Int32) < I s) := by
        have : s = 0 ∨ s = 1 ∨ s = 2 := by omega
        rcases this with rfl | rfl | rfl <;> decide
      by_cases h1 : n < 1
      · refine no _ _ ?_ ?_
        · unfold f_L_send
          rw [if_neg (isEnd_I he), if_neg (isStr_I hs), if_pos h1]
          rfl
        · unfold f_M_send
          rw [if_neg (two_I he), if_neg ns.1, if_neg ns.2, if_pos h1]
          rfl
      · by_cases h4 : (4 : Int32) < n
        · refine no _ _ ?_ ?_
          · unfold f_L_send
            rw [if_neg (isEnd_I he), if_neg (isStr_I hs), if_neg h1, if_pos h4]
            rfl
          · unfold f_M_send
            rw [if_neg (two_I he), if_neg ns.1, if_neg ns.2, if_neg h1, if_pos h4]
            rfl
        · have h0 : ¬ n < 0 := fun z => h1 (by
            rw [Int32.lt_iff_toInt_lt] at z ⊢
            have e0 : (0 : Int32).toInt = 0 := by decide
            have e1 : (1 : Int32).toInt = 1 := by decide
            omega)
          obtain ⟨m, hm4, rfl⟩ := I_range (b := 4) (by decide) h0 h4
          have hm : 1 ≤ m := by
            apply Nat.pos_of_ne_zero
            intro hz
            rw [hz] at h1
            exact h1 (by decide)
          obtain ⟨A, G, O, hT, hS, k⟩ := h
          obtain ⟨vv, ec, _⟩ := k.2 e he
          have p2 := ec.1.2.1
          have p3 := ec.1.2.2 s hs
          have hbT := T_send hT k.1.2.1.1 he hs hm hm4 vv.1.1 (by omega) (by omega) (u := u) (v := v)
          have hbS := S_send hS k.1.2.1.1 he hs hm hm4 vv.1.1 (by omega) (v := v) hu
          by_cases hz : aI A e 0 ≠ 3 ∨ 24 < m_len A e + m
          · rw [if_pos hz, if_pos hz] at hbT hbS
            exact st2_mk hbT hbS (K_up (Nat.le_succ c) k)
          · rw [if_neg hz, if_neg hz] at hbT hbS
            have h3 : aI A e 0 = 3 := Classical.byContradiction (fun q => hz (Or.inl q))
            have hl : ¬ 24 < aN A e 4 - aN A e 3 + m := fun q => hz (Or.inr q)
            obtain ⟨G', O', k'⟩ := K_send (lo := decide (u ≠ 0)) (v := v) k he (fun _ _ => Nat.le_refl 1) h3 hs hm hm4 hc (by omega)
            exact st2_mk hbT hbS k'
    · refine no _ _ ?_ ?_
      · unfold f_L_send
        rw [if_neg (isEnd_I he), if_pos y2]
        rfl
      · unfold f_M_send
        rw [if_neg (two_I he)]
        by_cases h0 : b < 0
        · rw [if_pos h0]; rfl
        · rw [if_neg h0, if_pos (y3.resolve_left h0)]; rfl
  · refine no _ _ ?_ ?_
    · unfold f_L_send
      rw [if_pos z2]
      rfl
    · unfold f_M_send
      rw [if_pos z1']
      rfl
theorem P_dlv {c : Nat} {S T : St} (h : PR c S T) (hc : c ≤ 511) (a b : Int32) : st2 c (f_L_deliver 0 a b S) (f_M_deliver 0 a b T) := by
  have no : ∀ x y, x = some (-1, S) → y = some (-1, T) → st2 c x y := fun x y hx hy => by rw [hx, hy]; exact st2_same h (-1)
  rcases end_cs a with ⟨e, he, rfl⟩ | ⟨z1', z2, z3⟩
  · rcases end_cs b with ⟨p, hp, rfl⟩ | ⟨y1, y2, y3⟩
    · obtain ⟨A, G, O, hT, hS, k⟩ := h
      have hR : 2 * e + p < 4 := by omega
      cases hl : aP A (2 * e + p) with
      | nil =>
        refine no _ _ ?_ ?_
        · obtain ⟨x, hx, r1, r2, r3⟩ := sr_row (hS.e he) hp
          have r2' : S cRow_count (2 * e + p) 0 = I (aP A (2 * e + p)).length := r2
          unfold f_L_deliver
          rw [if_neg (isEnd_I he), if_neg (isPath_I hp), inbT he (by decide), if_pos rfl, inbT hp (by decide), if_pos rfl, I_ix (by omega), I_ix (by omega), r2', hl]
          rfl
        · unfold f_M_deliver
          rw [if_neg (two_I he), if_neg (two_I hp), show (2 : Int32) * I e + I p = I (2 * e + p) by rw [show (2 : Int32) = I 2 from rfl, I_mul, I_add], inbT hR (by decide), if_pos rfl, I_ix (by omega), rt_rows hT hR, hl]
          rfl
      | cons q l =>
        have hq : pOK (gI A 4) G e q := by
          have := k.1.2.1.2 (2 * e + p) hR q (by rw [hl]; exact List.mem_cons_self)
          rw [show (2 * e + p) / 2 = e by omega] at this
          exact this
        have k' : K (m_take A (2 * e + p)) c G O z1 := K_take k
        have hq' : pOK (gI (m_take A (2 * e + p)) 4) G (1 - (1 - e)) q := by
          rw [show 1 - (1 - e) = e by omega]
          exact hq
        have he' : 1 - e < 2 := by omega
        have hn : (gT A 1).length < 512 := by have := k.1.2.2.1.2; omega
        have hbT := T_dlv hT k.1.2.1.1 he hp hl (k.2 0 (by decide)).1.1.2.1 (k.2 1 (by decide)).1.1.2.1 hn (fun ht h3 => K_dOK k' he' h3 hc hq' ht)
        have hbS := S_dlv hS k.1.2.1.1 he hp hl hn (fun x hx => (k.2 x hx).2.1.2.2.1) hq.1 (fun ht h3 _ => by
          obtain ⟨f1, f2, f3, f4⟩ := fG_hear (p := p) k' he' hp (fun _ _ => Nat.le_refl 1) h3 hc hq' ht
          exact ⟨K_dS k' he' h3 hc hq' ht, f1, f2, f3, f4⟩)
        exact st2_mk hbT hbS (K_dlv k' he' hp (fun _ _ => Nat.le_refl 1) hc hq')
    · refine no _ _ ?_ ?_
      · unfold f_L_deliver
        rw [if_neg (isEnd_I he), if_pos y3]
        rfl
      · unfold f_M_deliver
        rw [if_neg (two_I he), if_pos y1]
        rfl
  · refine no _ _ ?_ ?_
    · unfold f_L_deliver
      rw [if_pos z2]
      rfl
    · unfold f_M_deliver
      rw [if_pos z1']
      rfl
