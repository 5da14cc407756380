theorem T_tickE {A : MA} {T : St} (h : RT A T) (hbp : bP A) {e : Nat} (he : e < 2) (hb : bE A e) (hd : aN A e 1 < 5000) : sat (f_M_tick_12_b 0 (I e, T)) (Sum.elim (fun x => x.1 = I (e + 1) ∧ RT (m_tickE A e) x.2) (fun _ => False)) := by
  obtain ⟨b1, b2, b3, b4, b5⟩ := id hb
  have b8 := b1.2.2.2.2.2.2.2
  have e1 : I e + 1 = I (e + 1) := I_add e 1
  have k90 : ∀ B T1, RT B T1 → bP B → bE B e → sat (f_M_tick_90 0 (I e) T1) (Sum.elim (fun x => x.1 = I (e + 1) ∧ RT (m_up B e (m_sendAll e 64)) x.2) (fun _ => False)) := by
    intro B T1 h1 hp1 hb1
    unfold f_M_tick_90 f_M_tick_105 m_up
    rw [inbT he (by decide), if_pos rfl, I_ix (by omega), rt_state h1 he, e1]
    by_cases h3 : aI B e 0 = 3
    · rw [if_pos h3, if_pos h3]
      exact .bd (T_swm h1 hp1 he hb1.1) (fun T' h' => .some ⟨rfl, h'⟩)
    · rw [if_neg h3, if_neg h3]
      exact .some ⟨rfl, h1⟩
  have k58 : sat (f_M_tick_58 0 (I e) T) (Sum.elim (fun x => x.1 = I (e + 1) ∧ RT (if aI A e 0 = 3 then m_up (m_up (m_tickP A e 0) e (fun B => m_tickP B e 1)) e (m_sendAll e 64) else A) x.2) (fun _ => False)) := by
    unfold f_M_tick_58 f_M_tick_105
    rw [inbT he (by decide), if_pos rfl, I_ix (by omega), rt_state h he, e1]
    by_cases h3 : aI A e 0 = 3
    · rw [if_pos h3, if_pos h3]
      refine .bd (T_tickP h hbp he (p := 0) (by decide) b1 b2 (b3 0 (by decide))) (fun T1 h1 => ?_)
      have hp1 : bP (m_tickP A e 0) := bP_tickP hbp
      have hb1 : bE (m_tickP A e 0) e := bE_tickP (by decide) hb
      generalize m_tickP A e 0 = B at *
      rw [rt_state h1 he]
      have hu : m_up B e (fun B => m_tickP B e 1) = if aI B e 0 = 3 then m_tickP B e 1 else B := rfl
      rw [hu]
      by_cases h4 : aI B e 0 = 3
      · rw [if_pos h4, if_pos h4]
        refine .bd (T_tickP h1 hp1 he (p := 1) (by decide) hb1.1 hb1.2.1 (hb1.2.2.1 1 (by decide))) (fun T2 h2 => ?_)
        exact k90 _ T2 h2 (bP_tickP hp1) (bE_tickP (by decide) hb1)
      · rw [if_neg h4, if_neg h4]
        exact k90 _ T1 h1 hp1 hb1
    · rw [if_neg h3, if_neg h3]
      exact .some ⟨rfl, h⟩
  have hdue : (I (gN A 0) = I (aN A e 1)) ↔ gN A 0 = aN A e 1 := I_eq (by omega) (by omega)
  have k37 : (aI A e 0 = 1 ∨ aI A e 0 = 2) → sat (f_M_tick_37 0 (I e) T) (Sum.elim (fun x => x.1 = I (e + 1) ∧ RT (m_tickE A e) x.2) (fun _ => False)) := by
    intro hs
    unfold f_M_tick_37 f_M_tick_105 m_tickE
    rw [inbT he (by decide), if_pos rfl, I_ix (by omega), rt_now h, rt_due h he, e1]
    by_cases hq : gN A 0 = aN A e 1
    · rw [if_pos (hdue.mpr hq), if_pos (show (aI A e 0 = 1 ∨ aI A e 0 = 2) ∧ gN A 0 = aN A e 1 from ⟨hs, hq⟩)]
      exact .bd (T_again h hbp he b2 b4 b5) (fun T' h' => .some ⟨rfl, h'⟩)
    · rw [if_neg (fun z => hq (hdue.mp z)), if_neg (fun z => hq z.2)]
      exact k58
  unfold f_M_tick_12_b
  have hlt : I e < 2 := (I_lt (b := 2) (by omega) (by decide)).mpr he
  dsimp only
  rw [if_pos hlt, inbT he (by decide), if_pos rfl, I_ix (by omega), rt_state h he]
  by_cases h1 : aI A e 0 = 1
  · rw [if_pos h1]
    exact k37 (Or.inl h1)
  · rw [if_neg h1]
    by_cases h2 : aI A e 0 = 2
    · rw [if_pos h2]
      exact k37 (Or.inr h2)
    · rw [if_neg h2]
      have : m_tickE A e = if aI A e 0 = 3 then m_up (m_up (m_tickP A e 0) e (fun B => m_tickP B e 1)) e (m_sendAll e 64) else A := if_neg (fun z => z.1.elim h1 h2)
      rw [this]
      exact k58
theorem T_tick {A : MA} {T : St} (h : RT A T) (hbp : bP A) (hb0 : bE A 0) (hb1 : bE A 1) (hg : gN A 0 + 1 < 4000) (hd0 : aN A 0 1 < 5000) (hd1 : aN A 1 1 < 5000) : sat (f_M_tick 0 T) (fun x => x.1 = I (gN A 0 + 1) ∧ RT (m_tick A) x.2) := by
  have h0 : RT (uGN A (up1 (gN A) 0 (gN A 0 + 1))) (up3 T 1004 0 0 (I (gN A 0 + 1))) := by
    show RT (uGI (uGN A (up1 (gN A) 0 (gN A 0 + 1))) (gI A)) _
    refine RT_G h (fun x a b c d e => by rw [up3_code (show x ≠ 1004 from d)]) ?_
    obtain ⟨g1, g2, g3, g4, g5⟩ := h.2.1
    refine ⟨by rw [up3_code (by decide)]; exact g1, by rw [up3_code (by decide)]; exact g2, by rw [up3_code (by decide)]; exact g3, by rw [up3_at, if_pos rfl]; rfl, fun k hk => by rw [up3_code (by decide)]; exact g5 k hk⟩
  have g2 : ∀ e, bE A e → bE (uGN A (up1 (gN A) 0 (gN A 0 + 1))) e := by
    intro e hb
    obtain ⟨⟨b1, b2, b3, b4, b5, b6, b7, b8⟩, c1, c2, c3, c4⟩ := hb
    exact ⟨⟨b1, b2, b3, b4, b5, b6, b7, hg⟩, c1, c2, c3, c4⟩
  have c0 := g2 0 hb0
  have c1 := g2 1 hb1
  unfold f_M_tick f_M_tick_12 m_tick
  rw [rt_now h, show (1 : Int32) = I 1 from rfl, I_add]
  have hbp1 : bP (uGN A (up1 (gN A) 0 (gN A 0 + 1))) := hbp
  have hd0' : aN (uGN A (up1 (gN A) 0 (gN A 0 + 1))) 0 1 < 5000 := hd0
  have hd1' : aN (uGN A (up1 (gN A) 0 (gN A 0 + 1))) 1 1 < 5000 := hd1
  have hgn : gN (uGN A (up1 (gN A) 0 (gN A 0 + 1))) 0 = gN A 0 + 1 := rfl
  generalize uGN A (up1 (gN A) 0 (gN A 0 + 1)) = B at *
  have fr0 : frE 0 B (m_tickE B 0) := fr_tickE
  have bp1 : bP (m_tickE B 0) := bP_tickE hbp1 c0
  have be1 : bE (m_tickE B 0) 1 := bE_fr fr0 (by decide) c1
  have de1 : aN (m_tickE B 0) 1 1 < 5000 := by
    rw [(fr0.1 1 (by decide)).1.2]
    exact hd1'
  have gn2 : gN (m_tickE (m_tickE B 0) 1) 0 = gN A 0 + 1 := by
    rw [(fr_tickE (e := 1) (A := m_tickE B 0)).2, fr0.2, hgn]
  refine sat_upP (fun i x => x.1 = I i ∧ RT (match i with | 0 => B | 1 => m_tickE B 0 | _ => m_tickE (m_tickE B 0) 1) x.2) 2 (fun i x hi hx => ?_) (fun x hx => ?_) ⟨rfl, (show RT B _ from h0)⟩ (by decide)
  · obtain ⟨c, T1⟩ := x
    obtain ⟨rfl, h1⟩ := hx
    have : i = 0 ∨ i = 1 := by omega
    rcases this with rfl | rfl
    · exact T_tickE h1 hbp1 (by decide) c0 hd0'
    · exact T_tickE h1 bp1 (by decide) be1 de1
  · obtain ⟨c, T1⟩ := x
    obtain ⟨rfl, h1⟩ := hx
    replace h1 : RT (m_tickE (m_tickE B 0) 1) T1 := h1
    unfold f_M_tick_12_b
    dsimp only
    rw [if_neg (by decide)]
    refine .exW (.some ⟨?_, h1⟩)
    show T1 1004 0 0 = _
    rw [rt_now h1, gn2]
