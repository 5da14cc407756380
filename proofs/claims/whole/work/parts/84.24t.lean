/-! Delivery in the reference. -/
def dOK (A : MA) (e : Nat) (q : Pkt) : Prop := bO A e ∧ aN A e 22 = aN A e 3 ∧ (q.1 1 = 4 → (∀ j, j < 8 → q.1 j = (pdat (q.1 0) q.2.1 q.2.2).1 j) ∧ q.2.1 < 5000 ∧ aN A e 5 ≤ 511 ∧ (¬ m_drop A e q.2.1 = true → bW (m_put A e q.2.1 q.2.2) e ∧ bRd (m_put A e q.2.1 q.2.2) ∧ cHd (m_put A e q.2.1 q.2.2) e < 544) ∧ bP (m_get A e q.2.1 q.2.2) ∧ aN (m_get A e q.2.1 q.2.2) e 5 ≤ 527) ∧ (q.1 1 = 5 → q.1 2 = I q.2.1 ∧ q.2.1 < 5000)
theorem T_hear {A : MA} {T : St} (h : RT A T) (hbp : bP A) {e p : Nat} (he : e < 2) (hp : p < 2) (hr : bR A e) {q : Pkt} (hd : dOK A e q) (hq : ∀ j, j < 8 → T 1007 0 j = q.1 j) : sat (f_M_hear 0 (I e) (I p) (q.1 1) T) (fun T' => RT (m_hear A e p q) T') := by
  obtain ⟨d1, d2, d4, d5⟩ := hd
  have a2 : T cM_arrived 0 2 = q.1 2 := hq 2 (by decide)
  unfold f_M_hear m_hear
  by_cases k4 : q.1 1 = 4
  · rw [if_pos k4, if_pos k4]
    obtain ⟨c1, c2, c3, c4, c5, c6⟩ := d4 k4
    exact .bd (T_data h hbp he hp c2 c3 c4 (fun j hj => by rw [hq j hj]; exact c1 j hj) c5 c6) (fun T' h' => .some h')
  · rw [if_neg k4, if_neg k4]
    by_cases k5 : q.1 1 = 5
    · rw [if_pos k5, if_pos k5]
      obtain ⟨c1, c2⟩ := d5 k5
      exact .bd (T_sack h hbp he d1 d2 c2 hq c1) (fun T' h' => .some h')
    · rw [if_neg k5, if_neg k5]
      by_cases k6 : q.1 1 = 6
      · rw [if_pos k6, if_pos k6, inbT he (by decide), if_pos rfl, if_pos (by decide), I_ix (by omega), show ix (2 : Int32) = 2 by decide, a2, rt_other h he]
        exact .bd (T_post h hbp he hp) (fun T' h' => .some h')
      · rw [if_neg k6, if_neg k6]
        by_cases k7 : q.1 1 = 7
        · rw [if_pos k7, if_pos k7]
          unfold f_M_hear_127 m_beatAck
          rw [show (2 : Int32) * I e + I p = I (2 * e + p) by rw [show (2 : Int32) = I 2 from rfl, I_mul, I_add], inbT (show 2 * e + p < 4 by omega) (by decide), if_pos rfl, I_ix (by omega), rt_beating h he hp, b01_nz]
          cases hb : aB A e (4 + p) with
          | false =>
            rw [if_pos (by decide), if_neg (fun z => absurd z.1 (by decide))]
            exact .some h
          | true =>
            rw [if_neg (by decide), if_pos rfl, if_pos (by decide), rt_beat h he hp, show ix (2 : Int32) = 2 by decide, a2]
            by_cases hz : aI A e (8 + p) = q.1 2
            · rw [if_pos hz, if_pos (show true = true ∧ aI A e (8 + p) = q.1 2 from ⟨rfl, hz⟩), if_pos rfl, if_pos rfl, if_pos rfl, inbT he (by decide), if_pos rfl, I_ix (by omega)]
              exact .some (rs_allErrors (rs_errors (rs_act (rs_beating h hp rfl) hp rfl) hp))
            · rw [if_neg hz, if_neg (fun z => hz z.2)]
              exact .some h
        · rw [if_neg k7, if_neg k7]
          by_cases k8 : q.1 1 = 8
          · rw [if_pos k8, if_pos k8]
            exact .bd (T_close h he hr) (fun T' h' => .some h')
          · rw [if_neg k8, if_neg k8]
            exact .some h
theorem T_dlv {A : MA} {T : St} (h : RT A T) (hbp : bP A) {e p : Nat} (he : e < 2) (hp : p < 2) {q : Pkt} {l : List Pkt} (hl : aP A (2 * e + p) = q :: l) (hr0 : bR A 0) (hr1 : bR A 1) (hn : (gT A 1).length < 512) (hd : q.1 0 = aI A (1 - e) 1 → aI A (1 - e) 0 = 3 → dOK (m_take A (2 * e + p)) (1 - e) q) : sat (f_M_deliver 0 (I e) (I p) T) (fun x => x.1 = q.1 1 ∧ RT (m_dlv (m_take A (2 * e + p)) (1 - e) p q) x.2) := by
  have hR : 2 * e + p < 4 := by omega
  have hlen := hbp _ hR
  unfold f_M_deliver
  rw [if_neg (two_I he), if_neg (two_I hp), show (2 : Int32) * I e + I p = I (2 * e + p) by rw [show (2 : Int32) = I 2 from rfl, I_mul, I_add], inbT hR (by decide), if_pos rfl, I_ix (by omega), rt_rows h hR, hl]
  have hlen' : (q :: l).length ≤ 8 := by rw [← hl]; exact hlen
  rw [if_neg (fun z => by
    have := (I_eq (a := (q :: l).length) (b := 0) (by omega) (by decide)).mp z
    simp at this)]
  refine .bd (T_take h hbp hR hl) (fun T1 h1 => ?_)
  obtain ⟨h1, hq⟩ := h1
  have hbp1 : bP (m_take A (2 * e + p)) := by
    intro r hr
    show (up1 (aP A) (2 * e + p) (aP A (2 * e + p)).tail r).length ≤ 8
    by_cases hz : r = 2 * e + p
    · subst hz
      rw [up1_eq, hl]
      simp at hlen' ⊢
      omega
    · rw [up1_ne hz]
      exact hbp r hr
  have hr0' : bR (m_take A (2 * e + p)) 0 := hr0
  have hr1' : bR (m_take A (2 * e + p)) 1 := hr1
  have hre : bR (m_take A (2 * e + p)) (1 - e) := by
    have : e = 0 ∨ e = 1 := by omega
    rcases this with rfl | rfl
    · exact hr1
    · exact hr0
  have hn' : (gT (m_take A (2 * e + p)) 1).length < 512 := hn
  have hown : aI (m_take A (2 * e + p)) = aI A := rfl
  rw [← hown] at hd
  generalize m_take A (2 * e + p) = B at *
  have a0 : T1 cM_arrived 0 0 = q.1 0 := hq 0 (by decide)
  have a1 : T1 cM_arrived 0 1 = q.1 1 := hq 1 (by decide)
  have a2 : T1 cM_arrived 0 2 = q.1 2 := hq 2 (by decide)
  have e1 : (1 : Int32) - I e = I (1 - e) := I_sub (a := 1) (by omega)
  have x0 : ix (0 : Int32) = 0 := by decide
  have x1 : ix (1 : Int32) = 1 := by decide
  have x2 : ix (2 : Int32) = 2 := by decide
  have i0 : inb (0 : Int32) 8 = true := by decide
  have i1 : inb (1 : Int32) 8 = true := by decide
  have i2 : inb (2 : Int32) 8 = true := by decide
  have j0 : inb (0 : Int32) 2 = true := by decide
  have je : inb (I (1 - e)) 2 = true := inbT (by omega) (by decide)
  have xe : ix (I (1 - e)) = 1 - e := I_ix (by omega)
  have isone : (I (1 - e) = 1) ↔ 1 - e = 1 := I_eq (b := 1) (by omega) (by decide)
  have iszero : (I (1 - e) = 0) ↔ 1 - e = 0 := I_eq (b := 0) (by omega) (by decide)
  rw [e1, i1, if_pos rfl, x1, a1]
  unfold m_dlv
  by_cases c0 : q.1 1 = 0
  · simp only [if_pos c0]
    by_cases ce : 1 - e = 1
    · simp only [if_pos (isone.mpr ce)]
      rw [i2, if_pos rfl, x2, a2]
      by_cases cz : q.1 2 = 0
      · simp only [if_pos cz, if_neg (show ¬ (1 - e = 1 ∧ q.1 2 ≠ 0) from fun z => z.2 cz)]
        exact .some ⟨rfl, h1⟩
      · simp only [if_neg cz, if_pos (show 1 - e = 1 ∧ q.1 2 ≠ 0 from ⟨ce, cz⟩)]
        rw [if_pos trivial]
        exact .bd (T_init h1 hbp1 hp) (fun T2 h2 => .some ⟨rfl, h2⟩)
    · simp only [if_neg (show ¬ I (1 - e) = 1 from fun z => ce (isone.mp z)), if_neg (show ¬ (1 - e = 1 ∧ q.1 2 ≠ 0) from fun z => ce z.1)]
      exact .some ⟨rfl, h1⟩
  · simp only [if_neg c0]
    by_cases c2 : q.1 1 = 2
    · simp only [if_pos c2]
      by_cases ce : 1 - e = 1
      · simp only [if_pos (isone.mpr ce), if_pos ce]
        exact .bd (T_echo h1 hbp1 hn' hr1' hp hq) (fun T2 h2 => .some ⟨rfl, h2⟩)
      · simp only [if_neg (show ¬ I (1 - e) = 1 from fun z => ce (isone.mp z)), if_neg ce]
        exact .some ⟨rfl, h1⟩
    · simp only [if_neg c2]
      rw [i0, if_pos rfl, je, if_pos rfl, x0, a0, xe, rt_own h1 (by omega)]
      have k202 : sat (f_M_deliver_202 0 (I p) (q.1 1) (I (1 - e)) T1) (fun x => x.1 = q.1 1 ∧ RT (if q.1 0 = aI B (1 - e) 1 ∧ aI B (1 - e) 0 = 3 then m_hear B (1 - e) p q else B) x.2) := by
        unfold f_M_deliver_202
        rw [i0, if_pos rfl, je, if_pos rfl, x0, a0, xe, rt_own h1 (by omega)]
        by_cases ct : q.1 0 = aI B (1 - e) 1
        · rw [if_pos ct, if_pos rfl, rt_state h1 (by omega)]
          by_cases c3 : aI B (1 - e) 0 = 3
          · simp only [if_pos c3, if_pos (show q.1 0 = aI B (1 - e) 1 ∧ aI B (1 - e) 0 = 3 from ⟨ct, c3⟩)]
            exact .bd (T_hear h1 hbp1 (by omega) hp hre (hd ct c3) hq) (fun T2 h2 => .some ⟨rfl, h2⟩)
          · simp only [if_neg c3, if_neg (show ¬ (q.1 0 = aI B (1 - e) 1 ∧ aI B (1 - e) 0 = 3) from fun z => c3 z.2)]
            exact .some ⟨rfl, h1⟩
        · simp only [if_neg ct, if_neg (show ¬ (q.1 0 = aI B (1 - e) 1 ∧ aI B (1 - e) 0 = 3) from fun z => ct z.1)]
          exact .some ⟨rfl, h1⟩
      have k146 : sat (f_M_deliver_146 0 (I p) (q.1 1) (I (1 - e)) T1) (fun x => x.1 = q.1 1 ∧ RT (if q.1 0 = aI B (1 - e) 1 ∧ q.1 1 = 3 then (if 1 - e = 0 ∧ aI B 0 0 = 2 then m_comeUp B 0 (aI B 0 1) (aI B 0 2) else B) else if q.1 0 = aI B (1 - e) 1 ∧ aI B (1 - e) 0 = 3 then m_hear B (1 - e) p q else B) x.2) := by
        unfold f_M_deliver_146
        rw [i0, if_pos rfl, je, if_pos rfl, x0, a0, xe, rt_own h1 (by omega)]
        by_cases ct : q.1 0 = aI B (1 - e) 1
        · rw [if_pos ct]
          by_cases c3 : q.1 1 = 3
          · simp only [if_pos c3, if_pos (show q.1 0 = aI B (1 - e) 1 ∧ q.1 1 = 3 from ⟨ct, c3⟩)]
            by_cases ce : 1 - e = 0
            · simp only [if_pos (iszero.mpr ce)]
              rw [j0, if_pos rfl, rt_state h1 (by decide)]
              by_cases cs : aI B 0 0 = 2
              · simp only [if_pos cs, if_pos (show 1 - e = 0 ∧ aI B 0 0 = 2 from ⟨ce, cs⟩)]
                rw [if_pos trivial, if_pos trivial, rt_own h1 (by decide), rt_other h1 (by decide)]
                exact .bd (T_comeUp h1 (e := 0) (by decide) hr0') (fun T2 h2 => .some ⟨rfl, h2⟩)
              · simp only [if_neg cs, if_neg (show ¬ (1 - e = 0 ∧ aI B 0 0 = 2) from fun z => cs z.2)]
                exact .some ⟨rfl, h1⟩
            · simp only [if_neg (show ¬ I (1 - e) = 0 from fun z => ce (iszero.mp z)), if_neg (show ¬ (1 - e = 0 ∧ aI B 0 0 = 2) from fun z => ce z.1)]
              exact .some ⟨rfl, h1⟩
          · simp only [if_neg c3, if_neg (show ¬ (q.1 0 = aI B (1 - e) 1 ∧ q.1 1 = 3) from fun z => c3 z.2)]
            exact k202
        · simp only [if_neg ct, if_neg (show ¬ (q.1 0 = aI B (1 - e) 1 ∧ q.1 1 = 3) from fun z => ct z.1)]
          exact k202
      by_cases ct : q.1 0 = aI B (1 - e) 1
      · rw [if_pos ct]
        by_cases c1 : q.1 1 = 1
        · simp only [if_pos c1, if_pos (show q.1 0 = aI B (1 - e) 1 ∧ q.1 1 = 1 from ⟨ct, c1⟩)]
          by_cases ce : 1 - e = 0
          · simp only [if_pos (iszero.mpr ce)]
            rw [j0, if_pos rfl, rt_state h1 (by decide)]
            by_cases cs : aI B 0 0 = 1
            · simp only [if_pos cs, if_pos (show 1 - e = 0 ∧ aI B 0 0 = 1 from ⟨ce, cs⟩)]
              exact .bd (T_iack h1 hbp1 hp hq) (fun T2 h2 => .some ⟨rfl, h2⟩)
            · simp only [if_neg cs, if_neg (show ¬ (1 - e = 0 ∧ aI B 0 0 = 1) from fun z => cs z.2)]
              exact .some ⟨rfl, h1⟩
          · simp only [if_neg (show ¬ I (1 - e) = 0 from fun z => ce (iszero.mp z)), if_neg (show ¬ (1 - e = 0 ∧ aI B 0 0 = 1) from fun z => ce z.1)]
            exact .some ⟨rfl, h1⟩
        · simp only [if_neg c1, if_neg (show ¬ (q.1 0 = aI B (1 - e) 1 ∧ q.1 1 = 1) from fun z => c1 z.2)]
          exact k146
      · simp only [if_neg ct, if_neg (show ¬ (q.1 0 = aI B (1 - e) 1 ∧ q.1 1 = 1) from fun z => ct z.1)]
        exact k146
