def hTq (A : MA) (e q : Nat) : Prop := aB A e (2 + q) = true → gN A 0 ≤ aN A e (11 + q)
theorem hTq_close {A : MA} {e q : Nat} {w : Int32} (hq : q < 2) : hTq (m_close A e w) e q := by
  intro z
  exfalso
  have : aB (m_close A e w) e (2 + q) = m_eB (sI (sI (sI (sI A e 0 0) e 1 0) e 2 0) e 3 w) e (2 + q) := if_pos rfl
  rw [this] at z
  have : q = 0 ∨ q = 1 := by omega
  rcases this with rfl | rfl
  · have z' : false = true := z
    cases z'
  · have z' : false = true := z
    cases z'
theorem hTq_fail {A : MA} {e p q : Nat} (hp : p < 2) (hq : q < 2) (h : hTq A e q) : hTq (m_fail A e p) e q := by
  unfold m_fail
  dsimp only
  by_cases hc : I (gN A 2) < aI A e 4 + 1
  · rw [if_pos hc]
    exact hTq_close hq
  · rw [if_neg hc]
    intro z
    have z' : up2 (aB A) e p (aB A e p && decide (aI A e (6 + p) + 1 < 3)) e (2 + q) = true := z
    rw [up2_ne2 (by omega)] at z'
    exact h z'
theorem hTq_late {A : MA} {e p q : Nat} (hp : p < 2) (hq : q < 2) (h : hTq A e q) : hTq (m_late1 A e p) e q := by
  intro z
  have z' : up2 (aB A) e (2 + p) false e (2 + q) = true := z
  show gN A 0 ≤ up2 (up2 (aN A) e (7 + p) 1) e (9 + p) _ e (11 + q)
  rw [up2_ne2 (by omega), up2_ne2 (by omega)]
  by_cases hz : q = p
  · subst hz
    rw [up2_eq] at z'
    cases z'
  · rw [up2_ne2 (by omega)] at z'
    exact h z'
theorem hTq_beat {A : MA} {e p q : Nat} (hp : p < 2) (hq : q < 2) (h : hTq A e q) : hTq (m_beat A e p) e q := by
  intro z
  unfold m_beat at z ⊢
  rw [m_post_gN, m_post_aN]
  rw [m_post_aB] at z
  have z' : up2 (aB A) e (4 + p) true e (2 + q) = true := z
  rw [up2_ne2 (by omega)] at z'
  exact h z'
theorem hTq_tickP {A : MA} {e p q : Nat} (hp : p < 2) (hq : q < 2) (h : hTq A e q) : hTq (m_tickP A e p) e q := by
  unfold m_tickP
  split
  · exact hTq_fail hp hq (hTq_late hp hq h)
  · split
    · dsimp only
      split
      · split
        · exact hTq_beat hp hq (hTq_fail hp hq h)
        · exact hTq_fail hp hq h
      · split
        · exact hTq_beat hp hq h
        · exact h
    · exact h
theorem tickP_H {A : MA} {e p : Nat} (hH : ∀ k n, 544 ≤ n → aH A e k n = false) : ∀ k n, 544 ≤ n → aH (m_tickP A e p) e k n = false := by
  have hb : ∀ B : MA, (∀ k n, 544 ≤ n → aH B e k n = false) → ∀ k n, 544 ≤ n → aH (m_beat B e p) e k n = false := by
    intro B hB k n hn
    unfold m_beat
    rw [m_post_aH]
    exact hB k n hn
  unfold m_tickP
  split
  · refine m_fail_H ?_
    exact hH
  · split
    · dsimp only
      split
      · split
        · exact hb _ (m_fail_H hH)
        · exact m_fail_H hH
      · split
        · exact hb _ hH
        · exact hH
    · exact hH
theorem tickP_g {A : MA} {e p : Nat} (he : e < 2) (hp : p < 2) (hpr : aN A e 2 < 2) : (∀ r, r / 2 ≠ e → aP (m_tickP A e p) r = aP A r) ∧ gI (m_tickP A e p) = gI A ∧ gT (m_tickP A e p) = gT A := by
  have hb : ∀ B : MA, (∀ r, r / 2 ≠ e → aP B r = aP A r) ∧ gI B = gI A ∧ gT B = gT A → (∀ r, r / 2 ≠ e → aP (m_beat B e p) r = aP A r) ∧ gI (m_beat B e p) = gI A ∧ gT (m_beat B e p) = gT A := by
    intro B hB
    unfold m_beat
    refine ⟨fun r hr => ?_, ?_, ?_⟩
    · rw [m_post_aP (by omega)]
      exact hB.1 r hr
    · rw [m_post_gI]
      exact hB.2.1
    · rw [m_post_gT]
      exact hB.2.2
  have hl : aN (m_late1 A e p) e 2 < 2 := by
    show up2 (up2 (aN A) e (7 + p) 1) e (9 + p) _ e 2 < 2
    rw [up2_ne2 (by omega), up2_ne2 (by omega)]
    exact hpr
  unfold m_tickP
  split
  · exact m_fail_g he hl
  · split
    · dsimp only
      split
      · split
        · exact hb _ (m_fail_g he hpr)
        · exact m_fail_g he hpr
      · split
        · exact hb _ ⟨fun _ _ => rfl, rfl, rfl⟩
        · exact ⟨fun _ _ => rfl, rfl, rfl⟩
    · exact ⟨fun _ _ => rfl, rfl, rfl⟩
theorem again_3 {A : MA} {e : Nat} (h : aI A e 0 ≠ 3) : aI (m_again A e) e 0 ≠ 3 := by
  unfold m_again
  split
  · intro z
    have : aI (m_close A e 2) e 0 = 0 := by
      show (if e = e then m_eI (sI (sI (sI (sI A e 0 0) e 1 0) e 2 0) e 3 2) e 0 else _) = 0
      rw [if_pos rfl]
      show up2 (up2 (up2 (up2 (aI A) e 0 0) e 1 0) e 2 0) e 3 2 e 0 = 0
      rw [up2_ne2 (by decide), up2_ne2 (by decide), up2_ne2 (by decide), up2_eq]
    rw [this] at z
    exact absurd z (by decide)
  · dsimp only
    rw [m_post_aI]
    exact h
/-- what a tick needs of an end -/
def bTk (A : MA) (e : Nat) : Prop := bE A e ∧ (∀ k n, 544 ≤ n → aH A e k n = false) ∧ hTq A e 0 ∧ hTq A e 1 ∧ ((aI A e 0 = 1 ∨ aI A e 0 = 2) → gN A 0 ≤ aN A e 1 ∧ aN A e 0 ≤ gN A 2) ∧ aN A e 1 < 5000 ∧ (aI A e 0 = 2 → e = 0)
theorem S_tickE {A : MA} {e : Nat} {S : St} (h : RSe A e S) (he : e < 2) (hbp : bP A) (hb : bTk A e) : sat (f_End_passTick e (I (gN A 0)) S) (fun S' => RSe (m_tickE A e) e S' ∧ frS e S S') := by
  obtain ⟨hbE, hH, hT0, hT1, hd, hdu, hs2⟩ := hb
  have b8 := hbE.1.2.2.2.2.2.2.2
  have hst : S cEnd_state e 0 = aI A e 0 := sr_state h
  have hdue : S cEnd_tryDue e 0 = I (aN A e 1) := sr_due h
  have k56n : ∀ (B : MA) (S1 : St), RSe B e S1 → frS e S S1 → aI B e 0 ≠ 3 → f_End_passTick_56 e (I (gN A 0)) S1 = some S1 := by
    intro B S1 h1 hf hz
    have hst1 : S1 cEnd_state e 0 = aI B e 0 := sr_state h1
    unfold f_End_passTick_56
    rw [hst1, if_neg hz]
  have k29n : ∀ (B : MA) (S1 : St), RSe B e S1 → frS e S S1 → aI B e 0 ≠ 3 → sat (f_End_passTick_29 e (I (gN A 0)) S1) (fun S' => RSe B e S' ∧ frS e S S') := by
    intro B S1 h1 hf hz
    have hst1 : S1 cEnd_state e 0 = aI B e 0 := sr_state h1
    unfold f_End_passTick_29 f_End_passTick_31
    refine sat_upP (fun i x => x = (I i, S1)) 0 (fun i x hi hx => absurd hi (by omega)) (fun x hx => ?_) rfl (by decide)
    subst hx
    unfold f_End_passTick_31_b
    dsimp only
    rw [if_pos (by decide), hst1, if_neg hz, k56n B S1 h1 hf hz]
    exact .exW (.some ⟨h1, hf⟩)
  have k16 : (aI A e 0 = 1 ∨ aI A e 0 = 2) → sat (f_End_passTick_16 e (I (gN A 0)) S) (fun S' => RSe (m_tickE A e) e S' ∧ frS e S S') := by
    intro hs
    obtain ⟨d1, d2⟩ := hd hs
    have hn3 : aI A e 0 ≠ 3 := by
      intro z
      rw [z] at hs
      exact absurd hs (by decide)
    unfold f_End_passTick_16 m_tickE
    rw [hdue]
    by_cases hlt : gN A 0 < aN A e 1
    · rw [if_pos ((I_lt (by omega) (by omega)).mpr hlt), if_neg (fun z => by have := z.2; omega), if_neg hn3]
      exact k29n A S h frS.rfl hn3
    · rw [if_neg (fun z => hlt ((I_lt (by omega) (by omega)).mp z)), if_pos (show (aI A e 0 = 1 ∨ aI A e 0 = 2) ∧ gN A 0 = aN A e 1 from ⟨hs, by omega⟩)]
      refine .bd (S_again h he hbp hH (hs.imp id hs2) d2 hbE.2.2.2.2) (fun S1 h1 => ?_)
      exact k29n _ S1 h1.1 h1.2 (again_3 hn3)
  unfold f_End_passTick
  rw [hst]
  by_cases c1 : aI A e 0 = 1
  · rw [if_pos c1]
    exact k16 (Or.inl c1)
  · rw [if_neg c1]
    by_cases c2 : aI A e 0 = 2
    · rw [if_pos c2]
      exact k16 (Or.inr c2)
    · rw [if_neg c2]
      have hm : m_tickE A e = if aI A e 0 = 3 then m_up (m_up (m_tickP A e 0) e (fun B => m_tickP B e 1)) e (m_sendAll e 64) else A := if_neg (fun z => z.1.elim c1 c2)
      rw [hm]
      by_cases c3 : aI A e 0 = 3
      · rw [if_pos c3]
        have k56 : ∀ (B : MA) (S1 : St), RSe B e S1 → frS e S S1 → bP B → bO B e → gN B = gN A → sat (f_End_passTick_56 e (I (gN A 0)) S1) (fun S' => RSe (m_up B e (m_sendAll e 64)) e S' ∧ frS e S S') := by
          intro B S1 h1 hf hp1 hb1 hgB
          have hst1 : S1 cEnd_state e 0 = aI B e 0 := sr_state h1
          unfold f_End_passTick_56 m_up
          rw [hst1]
          by_cases hz : aI B e 0 = 3
          · rw [if_pos hz]
            simp only [if_pos hz]
            rw [sendAll_24 hp1 hb1, show I (gN A 0) = I (gN B 0) by rw [hgB]]
            exact .bd (S_swm h1 he hz hp1 hb1) (fun S2 h2 => .some ⟨h2.1, hf.trans h2.2⟩)
          · rw [if_neg hz]
            simp only [if_neg hz]
            exact .some ⟨h1, hf⟩
        have bp1 : bP (m_tickP A e 0) := bP_tickP hbp
        have be1 : bE (m_tickP A e 0) e := bE_tickP (by decide) hbE
        have g1 : gN (m_tickP A e 0) = gN A := fr_tickP.2
        have t1 : hTq (m_tickP A e 0) e 1 := hTq_tickP (by decide) (by decide) hT1
        have H1 : ∀ k n, 544 ≤ n → aH (m_tickP A e 0) e k n = false := tickP_H hH
        unfold f_End_passTick_29 f_End_passTick_31
        -- first turn
        have step : ∀ i (x : Int32 × St), (i = 0 ∧ x = (I 0, S)) ∨ (i = 1 ∧ x.1 = I 1 ∧ RSe (m_tickP A e 0) e x.2 ∧ frS e S x.2) ∨ (i = 2 ∧ x.1 = I 2 ∧ RSe (m_up (m_tickP A e 0) e (fun B => m_tickP B e 1)) e x.2 ∧ frS e S x.2) → sat (f_End_passTick_31_b e (I (gN A 0)) x) (Sum.elim (fun x' => ∃ j, j < 3 - i ∧ ((3 - j = 0 ∧ x' = (I 0, S)) ∨ (3 - j = 1 ∧ x'.1 = I 1 ∧ RSe (m_tickP A e 0) e x'.2 ∧ frS e S x'.2) ∨ (3 - j = 2 ∧ x'.1 = I 2 ∧ RSe (m_up (m_tickP A e 0) e (fun B => m_tickP B e 1)) e x'.2 ∧ frS e S x'.2))) (fun S' => RSe (m_up (m_up (m_tickP A e 0) e (fun B => m_tickP B e 1)) e (m_sendAll e 64)) e S' ∧ frS e S S')) := by
          intro i x hx
          rcases hx with ⟨rfl, rfl⟩ | ⟨rfl, hx1, hx2, hx3⟩ | ⟨rfl, hx1, hx2, hx3⟩
          · unfold f_End_passTick_31_b
            dsimp only
            rw [if_pos (by decide), hst, if_pos c3]
            exact .bd (S_tickP h he c3 hbp (p := 0) (by decide) hbE hH hT0) (fun S1 h1 => .some ⟨2, by decide, Or.inr (Or.inl ⟨rfl, rfl, h1.1, h1.2⟩)⟩)
          · obtain ⟨c, S1⟩ := x
            replace hx1 : c = I 1 := hx1
            subst hx1
            have hst1 : S1 cEnd_state e 0 = aI (m_tickP A e 0) e 0 := sr_state hx2
            unfold f_End_passTick_31_b
            dsimp only
            rw [if_pos (by decide), hst1]
            have hu : m_up (m_tickP A e 0) e (fun B => m_tickP B e 1) = if aI (m_tickP A e 0) e 0 = 3 then m_tickP (m_tickP A e 0) e 1 else m_tickP A e 0 := rfl
            by_cases hz : aI (m_tickP A e 0) e 0 = 3
            · rw [if_pos hz]
              rw [show I (gN A 0) = I (gN (m_tickP A e 0) 0) by rw [g1]]
              refine .bd (S_tickP hx2 he hz bp1 (p := 1) (by decide) be1 H1 t1) (fun S2 h2 => .some ⟨1, by decide, Or.inr (Or.inr ⟨rfl, rfl, ?_, hx3.trans h2.2⟩)⟩)
              rw [hu, if_pos hz]
              exact h2.1
            · rw [if_neg hz]
              refine .exW ?_
              rw [hu, if_neg hz]
              exact k56 _ S1 hx2 hx3 bp1 be1.1 g1
          · obtain ⟨c, S1⟩ := x
            replace hx1 : c = I 2 := hx1
            subst hx1
            unfold f_End_passTick_31_b
            dsimp only
            rw [if_neg (by decide)]
            have h4 : bP (m_up (m_tickP A e 0) e (fun B => m_tickP B e 1)) ∧ bO (m_up (m_tickP A e 0) e (fun B => m_tickP B e 1)) e ∧ gN (m_up (m_tickP A e 0) e (fun B => m_tickP B e 1)) = gN A := by
              unfold m_up
              split
              · exact ⟨bP_tickP bp1, (bE_tickP (by decide) be1).1, fr_tickP.2.trans g1⟩
              · exact ⟨bp1, be1.1, g1⟩
            exact .exW (k56 _ S1 hx2 hx3 h4.1 h4.2.1 h4.2.2)
        refine sat_iter (fun j x => j ≤ 3 ∧ ((3 - j = 0 ∧ x = (I 0, S)) ∨ (3 - j = 1 ∧ x.1 = I 1 ∧ RSe (m_tickP A e 0) e x.2 ∧ frS e S x.2) ∨ (3 - j = 2 ∧ x.1 = I 2 ∧ RSe (m_up (m_tickP A e 0) e (fun B => m_tickP B e 1)) e x.2 ∧ frS e S x.2))) (P := fun S' => RSe (m_up (m_up (m_tickP A e 0) e (fun B => m_tickP B e 1)) e (m_sendAll e 64)) e S' ∧ frS e S S') ?_ (i := 3) (by decide) ⟨by decide, Or.inl ⟨rfl, rfl⟩⟩
        rintro j x ⟨hj, hx⟩
        refine (step (3 - j) x hx).imp (fun y hy => ?_)
        cases y with
        | inr _ => exact hy
        | inl y =>
          obtain ⟨j', hj', hy'⟩ := hy
          exact ⟨j', by omega, by omega, hy'⟩
      · rw [if_neg c3]
        exact k29n A S h frS.rfl c3
theorem again_g {A : MA} {e : Nat} (he : e < 2) : (∀ r, r / 2 ≠ e → aP (m_again A e) r = aP A r) ∧ gI (m_again A e) = gI A ∧ gT (m_again A e) = gT A := by
  have hm : (aN A e 0 + 1) % 2 < 2 := Nat.mod_lt _ (by decide)
  unfold m_again
  split
  · exact ⟨fun _ _ => rfl, rfl, rfl⟩
  · dsimp only
    refine ⟨fun r hr => ?_, ?_, ?_⟩
    · rw [m_post_aP (by omega)]
    · rw [m_post_gI]
    · rw [m_post_gT]
theorem tickE_g {A : MA} {e : Nat} (he : e < 2) (hb : bE A e) (hp : bP A) : (∀ r, r / 2 ≠ e → aP (m_tickE A e) r = aP A r) ∧ gI (m_tickE A e) = gI A ∧ gT (m_tickE A e) = gT A := by
  unfold m_tickE
  split
  · exact again_g he
  · split
    · obtain ⟨a1, a2, a3⟩ := tickP_g (A := A) (p := 0) he (by decide) hb.1.1
      have hb1 : bE (m_tickP A e 0) e := bE_tickP (by decide) hb
      have hp1 : bP (m_tickP A e 0) := bP_tickP hp
      have h2 : ((∀ r, r / 2 ≠ e → aP (m_up (m_tickP A e 0) e (fun B => m_tickP B e 1)) r = aP A r) ∧ gI (m_up (m_tickP A e 0) e (fun B => m_tickP B e 1)) = gI A ∧ gT (m_up (m_tickP A e 0) e (fun B => m_tickP B e 1)) = gT A) ∧ bO (m_up (m_tickP A e 0) e (fun B => m_tickP B e 1)) e ∧ bP (m_up (m_tickP A e 0) e (fun B => m_tickP B e 1)) := by
        unfold m_up
        split
        · obtain ⟨c1, c2, c3⟩ := tickP_g (A := m_tickP A e 0) (p := 1) he (by decide) hb1.1.1
          exact ⟨⟨fun r hr => (c1 r hr).trans (a1 r hr), c2.trans a2, c3.trans a3⟩, (bE_tickP (by decide) hb1).1, bP_tickP hp1⟩
        · exact ⟨⟨a1, a2, a3⟩, hb1.1, hp1⟩
      generalize m_up (m_tickP A e 0) e (fun B => m_tickP B e 1) = B at h2 ⊢
      obtain ⟨⟨d1, d2, d3⟩, d4, d5⟩ := h2
      unfold m_up
      split
      · obtain ⟨x1, x2, x3⟩ := sendAll_g he 64 B d4 d5
        exact ⟨fun r hr => (x1 r hr).trans (d1 r hr), x2.trans d2, x3.trans d3⟩
      · exact ⟨d1, d2, d3⟩
    · exact ⟨fun _ _ => rfl, rfl, rfl⟩
theorem bTk_fr {A A' : MA} {e e' : Nat} (h : frE e A A') (hne : e' ≠ e) (hb : bTk A e') : bTk A' e' := by
  obtain ⟨h1, h2, h3, h4, h5, h6, h7⟩ := hb
  obtain ⟨⟨a1, a2⟩, ⟨a3, a4⟩, ⟨a5, a6⟩, a7⟩ := h.1 e' hne
  have a8 := h.2
  refine ⟨bE_fr h hne h1, ?_, ?_, ?_, ?_, ?_, ?_⟩
  · rw [a5]; exact h2
  · unfold hTq at *; rw [a3, a2, a8]; exact h3
  · unfold hTq at *; rw [a3, a2, a8]; exact h4
  · rw [a1, a2, a8]; exact h5
  · rw [a2]; exact h6
  · rw [a1]; exact h7
theorem S_tick {A : MA} {S : St} (h : RS A S) (hbp : bP A) (hb0 : bTk (uGN A (up1 (gN A) 0 (gN A 0 + 1))) 0) (hb1 : bTk (uGN A (up1 (gN A) 0 (gN A 0 + 1))) 1) : sat (f_L_tick 0 S) (fun x => x.1 = I (gN A 0 + 1) ∧ RS (m_tick A) x.2) := by
  have hn : S cL_now 0 0 = I (gN A 0) := h.1.2
  have h0 : RS (uGN A (up1 (gN A) 0 (gN A 0 + 1))) (up3 S 2 0 0 (I (gN A 0 + 1))) := by
    obtain ⟨⟨g1, g2⟩, ⟨t1, t2⟩, r0, r1⟩ := h
    have cc : ∀ x i, x ≠ 2 → up3 S 2 0 0 (I (gN A 0 + 1)) x i = S x i := fun x i a => by rw [up3_code a]
    have ce : ∀ e, e < 2 → RSe A e S → RSe (uGN A (up1 (gN A) 0 (gN A 0 + 1))) e (up3 S 2 0 0 (I (gN A 0 + 1))) := by
      intro e he hr
      have := RSe_cg hr he (S' := up3 S 2 0 0 (I (gN A 0 + 1))) (fun x k hx => cc x k (fun z => by subst z; rw [ow_g (by decide)] at hx; omega))
      exact this
    refine ⟨⟨by rw [cc 1 0 (by decide)]; exact g1, by rw [up3_at, if_pos rfl]; rfl⟩, ⟨?_, ?_⟩, ce 0 (by decide) r0, ce 1 (by decide) r1⟩
    · unfold tgS at *
      rw [cc 53 0 (by decide), cc 52 0 (by decide)]
      exact t1
    · unfold tgS at *
      rw [cc 53 1 (by decide), cc 52 1 (by decide)]
      exact t2
  unfold f_L_tick f_L_tick_12 m_tick
  rw [hn, show (1 : Int32) = I 1 from rfl, I_add]
  have hbp' : bP (uGN A (up1 (gN A) 0 (gN A 0 + 1))) := hbp
  have hgn : gN (uGN A (up1 (gN A) 0 (gN A 0 + 1))) 0 = gN A 0 + 1 := rfl
  generalize uGN A (up1 (gN A) 0 (gN A 0 + 1)) = B at *
  have fr0 : frE 0 B (m_tickE B 0) := fr_tickE
  have bp1 : bP (m_tickE B 0) := bP_tickE hbp' hb0.1
  have bt1 : bTk (m_tickE B 0) 1 := bTk_fr fr0 (by decide) hb1
  have g1 : gN (m_tickE B 0) = gN B := fr0.2
  have g2 : gN (m_tickE (m_tickE B 0) 1) = gN B := (fr_tickE (e := 1) (A := m_tickE B 0)).2.trans g1
  refine sat_upP (fun i x => x.1 = I i ∧ RS (match i with | 0 => B | 1 => m_tickE B 0 | _ => m_tickE (m_tickE B 0) 1) x.2) 2 (fun i x hi hx => ?_) (fun x hx => ?_) ⟨rfl, (show RS B _ from h0)⟩ (by decide)
  · obtain ⟨c, S1⟩ := x
    obtain ⟨rfl, h1⟩ := hx
    have : i = 0 ∨ i = 1 := by omega
    rcases this with rfl | rfl
    · replace h1 : RS B S1 := h1
      have hnow : S1 cL_now 0 0 = I (gN B 0) := h1.1.2
      unfold f_L_tick_12_b
      dsimp only
      rw [if_pos (by decide), if_pos (by decide), show ix (I 0) = 0 by decide, hnow]
      refine .bd (S_tickE (h1.e (by decide)) (by decide) hbp' hb0) (fun S2 h2 => .some ⟨rfl, ?_⟩)
      obtain ⟨x1, x2, x3⟩ := tickE_g (A := B) (e := 0) (by decide) hb0.1 hbp'
      exact RS_up h1 (by decide) h2 fr0 x1 x2 x3
    · replace h1 : RS (m_tickE B 0) S1 := h1
      have hnow : S1 cL_now 0 0 = I (gN (m_tickE B 0) 0) := h1.1.2
      unfold f_L_tick_12_b
      dsimp only
      rw [if_pos (by decide), if_pos (by decide), show ix (I 1) = 1 by decide, hnow]
      refine .bd (S_tickE (h1.e (by decide)) (by decide) bp1 bt1) (fun S2 h2 => .some ⟨rfl, ?_⟩)
      obtain ⟨x1, x2, x3⟩ := tickE_g (A := m_tickE B 0) (e := 1) (by decide) bt1.1 bp1
      exact RS_up h1 (by decide) h2 fr_tickE x1 x2 x3
  · obtain ⟨c, S1⟩ := x
    obtain ⟨rfl, h1⟩ := hx
    replace h1 : RS (m_tickE (m_tickE B 0) 1) S1 := h1
    have hnow : S1 cL_now 0 0 = I (gN (m_tickE (m_tickE B 0) 1) 0) := h1.1.2
    unfold f_L_tick_12_b
    dsimp only
    rw [if_neg (by decide), hnow]
    refine .exW (.some ⟨?_, h1⟩)
    show I (gN (m_tickE (m_tickE B 0) 1) 0) = _
    rw [g2, hgn]
