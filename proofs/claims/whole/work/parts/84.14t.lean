/-! Time in the reference. -/
theorem rs_act {A : MA} {T : St} (h : RT A T) {e k : Nat} (hk : k < 2) {v : Bool} {w : Int32} (hw : w = b01 v) : RT (sB A e k v) (up3 T 1022 0 (2 * e + k) w) := by
  have := rs_active h (e := e) hk hw
  rw [Nat.zero_add] at this
  exact this
theorem rt_act {A : MA} {T : St} (h : RT A T) {e k : Nat} (he : e < 2) (hk : k < 2) : T 1022 0 (2 * e + k) = b01 (aB A e k) := by
  have := rt_active h he hk
  rw [Nat.zero_add] at this
  exact this
theorem T_fail {A : MA} {T : St} (h : RT A T) (hbp : bP A) {e p : Nat} (he : e < 2) (hp : p < 2) (hr : bR A e) (hpr : aN A e 2 < 2) : sat (f_M_fail 0 (I e) (I p) T) (fun T' => RT (m_fail A e p) T') := by
  have h2 := rs_allErrors (rs_errors h (e := e) hp (v := aI A e (6 + p) + 1)) (e := e) (v := aI A e 4 + 1)
  have k65 : ∀ s2 : Int32, ∀ b : Bool, s2 = b01 b → b = (aB A e p && decide (aI A e (6 + p) + 1 < 3)) → sat (f_M_fail_65 0 (I e) 0 (I (2 * e + p)) s2 (up3 (up3 T 1025 0 (2 * e + p) (aI A e (6 + p) + 1)) 1020 0 e (aI A e 4 + 1))) (fun T' => RT (m_fail A e p) T') := by
    intro s2 b hs hb
    have h3 := rs_act h2 hp (e := e) (v := b) (w := s2) hs
    have hB : iIsB s2 = true := by subst hs; cases b <;> rfl
    unfold f_M_fail_65
    have ae : (up3 (up3 T 1025 0 (2 * e + p) (aI A e (6 + p) + 1)) 1020 0 e (aI A e 4 + 1)) cM_allErrors 0 e = aI A e 4 + 1 := by rw [up3_at, if_pos rfl]
    have li : (up3 (up3 T 1025 0 (2 * e + p) (aI A e (6 + p) + 1)) 1020 0 e (aI A e 4 + 1)) cM_limit 0 0 = I (gN A 2) := by
      rw [up3_code (by decide), up3_code (by decide)]
      exact rt_limit h
    have ot : (up3 (up3 T 1025 0 (2 * e + p) (aI A e (6 + p) + 1)) 1020 0 e (aI A e 4 + 1)) cM_other 0 e = aI A e 2 := by
      rw [up3_code (by decide), up3_code (by decide)]
      exact rt_other h he
    rw [inbT (show 2 * e + p < 4 by omega) (by decide), if_pos rfl, hB, if_pos rfl, inbT he (by decide), if_pos rfl, I_ix (by omega), I_ix (by omega), ae, li, ot]
    unfold m_fail
    dsimp only
    rw [← hb]
    by_cases hc : I (gN A 2) < aI A e 4 + 1
    · rw [if_pos hc, if_pos hc, T_ptu h3 he hpr, bdS, if_pos rfl]
      have hbC : bP (sB (sI (sI A e (6 + p) (aI A e (6 + p) + 1)) e 4 (aI A e 4 + 1)) e p b) := hbp
      have hrC : bR (sB (sI (sI A e (6 + p) (aI A e (6 + p) + 1)) e 4 (aI A e 4 + 1)) e p b) e := hr
      have hpC : aN (sB (sI (sI A e (6 + p) (aI A e (6 + p) + 1)) e 4 (aI A e 4 + 1)) e p b) e 2 < 2 := hpr
      generalize sB (sI (sI A e (6 + p) (aI A e (6 + p) + 1)) e 4 (aI A e 4 + 1)) e p b = C at *
      exact .bd (T_post h3 hbC he (m_ptu_lt hpC)) (fun T' h' => .bd (T_close h' he (bR_post hrC _ _)) (fun T2 h4 => .some h4))
    · rw [if_neg hc, if_neg hc]
      exact .some h3
  unfold f_M_fail f_M_fail_64
  have er : up3 T cM_errors 0 (2 * e + p) (aI A e (6 + p) + I 1) cM_errors 0 (2 * e + p) = aI A e (6 + p) + I 1 := by rw [up3_at, if_pos rfl]
  simp (disch := omega) only [I_lit, I_ix, inbT, if_true, I_add, I_mul, rt_errors h he hp, rt_allErrors h he, rt_act h he hp, b01_nz, er]
  cases hA : aB A e p with
  | false =>
    rw [if_pos (by decide)]
    exact k65 0 false rfl (by rw [hA]; rfl)
  | true =>
    rw [if_neg (by decide)]
    by_cases h3 : aI A e (6 + p) + I 1 < I 3
    · rw [if_pos h3]
      exact k65 1 true rfl (by rw [hA, decide_eq_true (show aI A e (6 + p) + 1 < 3 from h3)]; rfl)
    · rw [if_neg h3]
      exact k65 0 false rfl (by rw [hA, decide_eq_false (show ¬ aI A e (6 + p) + 1 < 3 from h3)]; rfl)
theorem T_again {A : MA} {T : St} (h : RT A T) (hbp : bP A) {e : Nat} (he : e < 2) (hr : bR A e) (ht : aN A e 0 < 100) (hl : gN A 2 < 100) : sat (f_M_again 0 (I e) T) (fun T' => RT (m_again A e) T') := by
  have h2 := rs_due (rs_tries h (e := e) (v := aN A e 0 + 1) (w := I (aN A e 0 + 1)) rfl) (e := e) (v := gN A 0 + 3) (w := I (gN A 0 + 3)) rfl
  have tr : up3 T cM_tries 0 e (I (aN A e 0 + 1)) cM_tries 0 e = I (aN A e 0 + 1) := by rw [up3_at, if_pos rfl]
  unfold f_M_again m_again
  simp (disch := omega) only [I_lit, I_ix, inbT, if_true, I_add, rt_tries h he, rt_limit h, I_eq, tr, rt_now h, rt_own h he, rt_other h he, rt_state h he, I_rem]
  by_cases hc : aN A e 0 = gN A 2
  · rw [if_pos hc, if_pos hc]
    exact .bd (T_close h he hr) (fun T' h' => .some h')
  · rw [if_neg hc, if_neg hc]
    by_cases h1 : aI A e 0 = I 1
    · rw [if_pos h1, if_pos h1]
      exact .bd (T_post h2 hbp he (Nat.mod_lt _ (by decide))) (fun T' h' => .some h')
    · rw [if_neg h1, if_neg h1]
      have e2 : aI (sN (sN A e 0 (aN A e 0 + 1)) e 1 (gN A 0 + 3)) e 2 = aI A e 2 := rfl
      exact .bd (T_cookie h2 hbp he (Nat.mod_lt _ (by decide)) e2.symm) (fun T' h' => .some h')
def m_markN (A : MA) (e p c : Nat) : MA := uO A (fun x n => if x = e ∧ n ≤ c ∧ oSt A e n = 2 ∧ oPa A e n = p then (oWd A e n, 3, p, oSk A e n) else aO A x n)
theorem T_mark {A : MA} {T : St} (h : RT A T) {e p : Nat} (he : e < 2) (hp : p < 2) (hb : bO A e) {P : St → Prop} (hP : ∀ T', RT (m_mark A e p) T' → sat (if inb (I (2 * e + p)) 4 = true then if inb (I (2 * e + p)) 4 = true then if (24 : Int32) < ((T' cM_wait 0 (ix (I (2 * e + p)))) * (2 : Int32)) then f_M_tickPath_145 0 (I e) (I p) (I (2 * e + p)) 0 (I (2 * e + p)) (24 : Int32) (up3 T' cM_rate 0 (ix (I (2 * e + p))) (1 : Int32)) else (if inb (I (2 * e + p)) 4 = true then f_M_tickPath_145 0 (I e) (I p) (I (2 * e + p)) 0 (I (2 * e + p)) ((T' cM_wait 0 (ix (I (2 * e + p)))) * (2 : Int32)) (up3 T' cM_rate 0 (ix (I (2 * e + p))) (1 : Int32)) else none) else none else none) P) : sat (f_M_tickPath_38 0 (I e) (I p) (I (2 * e + p)) (I (aN A e 3 + 1), T)) P := by
  obtain ⟨b1, b2, b3, b4, b5, b6, b7, b8⟩ := hb
  unfold f_M_tickPath_38
  refine sat_upP (fun i x => x.1 = I (aN A e 3 + 1 + i) ∧ RT (m_markN A e p (aN A e 3 + i)) x.2) (m_len A e) (fun i x hi hx => ?_) (fun x hx => ?_) ⟨rfl, ?_⟩ (by unfold m_len; omega)
  · obtain ⟨c, T1⟩ := x
    obtain ⟨rfl, h1⟩ := hx
    replace h1 : RT (m_markN A e p (aN A e 3 + i)) T1 := h1
    unfold m_len at hi
    have ho := rt_o h1 he (n := aN A e 3 + 1 + i) (show aN A e 3 < _ by omega) (show _ ≤ aN A e 4 by omega)
    have e1 : aO (m_markN A e p (aN A e 3 + i)) e (aN A e 3 + 1 + i) = aO A e (aN A e 3 + 1 + i) := if_neg (by omega)
    rw [e1] at ho
    obtain ⟨o1, o2, o3, o4, o5, o6, o7⟩ := id ho
    have hg : T1 cM_given 0 e = I (aN A e 4) := rt_given h1 he
    have step : ∀ (v : Int32) (o : OW), (o = if oSt A e (aN A e 3 + 1 + i) = 2 ∧ oPa A e (aN A e 3 + 1 + i) = p then (oWd A e (aN A e 3 + 1 + i), 3, p, oSk A e (aN A e 3 + 1 + i)) else aO A e (aN A e 3 + 1 + i)) → o.1 = oWd A e (aN A e 3 + 1 + i) → o.2.1 = v → o.2.2.1 = oPa A e (aN A e 3 + 1 + i) → o.2.2.2 = oSk A e (aN A e 3 + 1 + i) → RT (m_markN A e p (aN A e 3 + (i + 1))) (up3 T1 1034 0 (32 * e + (aN A e 3 + 1 + i) % 32) v) := by
      intro v o ho0 q1 q2 q3 q4
      have h2 := RT_oW h1 (T' := up3 T1 1034 0 (32 * e + (aN A e 3 + 1 + i) % 32) v) (n := aN A e 3 + 1 + i) (o := o) he (show aN A e 3 < _ by omega) (show _ ≤ aN A e 4 by omega) b3 (fun x hx => up3_code (by omega)) (fun x hx hy j hj => by
        by_cases hx2 : x = 1034
        · subst hx2
          rw [up3_at, if_neg hj]
        · rw [up3_code hx2]) ⟨by rw [up3_at, if_pos rfl, q2], by rw [up3_code (by decide), q1]; exact o2, by rw [up3_code (by decide), q1]; exact o3, by rw [up3_code (by decide), q1]; exact o4, by rw [up3_code (by decide), q1]; exact o5, by rw [up3_code (by decide), q3]; exact o6, by rw [up3_code (by decide), q4]; exact o7⟩
      have e2 : uO (m_markN A e p (aN A e 3 + i)) (up2 (aO (m_markN A e p (aN A e 3 + i))) e (aN A e 3 + 1 + i) o) = m_markN A e p (aN A e 3 + (i + 1)) := by
        unfold m_markN
        show uO A _ = uO A _
        congr 1
        funext x n
        show up2 (fun x n => if x = e ∧ n ≤ aN A e 3 + i ∧ oSt A e n = 2 ∧ oPa A e n = p then (oWd A e n, 3, p, oSk A e n) else aO A x n) e (aN A e 3 + 1 + i) o x n = _
        unfold up2
        by_cases hx : x = e ∧ n = aN A e 3 + 1 + i
        · obtain ⟨rfl, rfl⟩ := hx
          rw [if_pos ⟨rfl, rfl⟩, ho0]
          by_cases hz : oSt A x (aN A x 3 + 1 + i) = 2 ∧ oPa A x (aN A x 3 + 1 + i) = p
          · rw [if_pos hz, if_pos ⟨rfl, by omega, hz⟩]
          · rw [if_neg hz, if_neg (fun z => hz z.2.2)]
        · rw [if_neg hx]
          dsimp only
          by_cases hz : x = e ∧ n ≤ aN A e 3 + i ∧ oSt A e n = 2 ∧ oPa A e n = p
          · rw [if_pos hz, if_pos ⟨hz.1, by omega, hz.2.2⟩]
          · rw [if_neg hz, if_neg (fun z => hz ⟨z.1, by
              have : n ≠ aN A e 3 + 1 + i := fun y => hx ⟨z.1, y⟩
              omega, z.2.2⟩)]
      rw [e2] at h2
      exact h2
    unfold f_M_tickPath_38_b f_M_tickPath_93 f_M_tickPath_100
    have hpa := b5 (aN A e 3 + 1 + i)
    have iq : (I (aO A e (aN A e 3 + 1 + i)).2.2.1 = I p) ↔ oPa A e (aN A e 3 + 1 + i) = p := I_eq (by show oPa A e (aN A e 3 + 1 + i) < _; omega) (by omega)
    simp (disch := omega) only [I_lit, I_ix, inbT, if_true, I_add, I_mul, I_rem, hg, I_lt, o1, o6, iq]
    rw [if_neg (by omega)]
    by_cases c1 : oSt A e (aN A e 3 + 1 + i) = I 2
    · rw [if_pos c1]
      by_cases c2 : oPa A e (aN A e 3 + 1 + i) = p
      · rw [if_pos c2]
        refine .some ⟨rfl, step _ (oWd A e (aN A e 3 + 1 + i), 3, p, oSk A e (aN A e 3 + 1 + i)) (by rw [if_pos ⟨c1, c2⟩]) rfl rfl c2.symm rfl⟩
      · rw [if_neg c2]
        refine .some ⟨rfl, step _ (aO A e (aN A e 3 + 1 + i)) (by rw [if_neg (fun z => c2 z.2)]) rfl rfl rfl rfl⟩
    · rw [if_neg c1]
      refine .some ⟨rfl, step _ (aO A e (aN A e 3 + 1 + i)) (by rw [if_neg (fun z => c1 z.1)]) rfl rfl rfl rfl⟩
  · obtain ⟨c, T1⟩ := x
    obtain ⟨rfl, h1⟩ := hx
    replace h1 : RT (m_markN A e p (aN A e 3 + m_len A e)) T1 := h1
    have hg : T1 cM_given 0 e = I (aN A e 4) := rt_given h1 he
    unfold f_M_tickPath_38_b
    unfold m_len at *
    dsimp only
    rw [inbT he (by decide), if_pos rfl, I_ix (by omega), hg, if_pos ((I_lt (by omega) (by omega)).mpr (by omega))]
    refine .exW (hP T1 ?_)
    have h3 : RT (uO (m_markN A e p (aN A e 3 + (aN A e 4 - aN A e 3))) (aO (m_mark A e p))) T1 := by
      refine RT_O h1 (fun _ _ => rfl) (fun e' he' n h4 h5 => ?_)
      have := rt_o h1 he' h4 h5
      have e2 : aO (m_markN A e p (aN A e 3 + (aN A e 4 - aN A e 3))) e' n = aO (m_mark A e p) e' n := by
        show (if e' = e ∧ n ≤ aN A e 3 + (aN A e 4 - aN A e 3) ∧ oSt A e n = 2 ∧ oPa A e n = p then (oWd A e n, 3, p, oSk A e n) else aO A e' n) = if e' = e ∧ oSt A e n = 2 ∧ oPa A e n = p then (oWd A e n, 3, p, oSk A e n) else aO A e' n
        by_cases hz : e' = e ∧ oSt A e n = 2 ∧ oPa A e n = p
        · rw [if_pos hz, if_pos ⟨hz.1, by
            obtain ⟨z1, _⟩ := hz
            subst z1
            have : n ≤ aN A e' 4 := h5
            omega, hz.2⟩]
        · rw [if_neg hz, if_neg (fun z => hz ⟨z.1, z.2.2⟩)]
      rw [e2] at this
      exact this
    exact h3
  · show RT (m_markN A e p (aN A e 3 + 0)) T
    have h3 : RT (uO A (aO (m_markN A e p (aN A e 3 + 0)))) T := by
      refine RT_O h (fun _ _ => rfl) (fun e' he' n h4 h5 => ?_)
      have := rt_o h he' h4 h5
      have e2 : aO (m_markN A e p (aN A e 3 + 0)) e' n = aO A e' n := if_neg (fun z => by
        obtain ⟨z1, z2, _⟩ := z
        subst z1
        omega)
      rw [e2]
      exact this
    exact h3
theorem m_close_aP (A : MA) (e : Nat) (w : Int32) : aP (m_close A e w) = aP A := rfl
theorem m_close_gN (A : MA) (e : Nat) (w : Int32) : gN (m_close A e w) = gN A := rfl
theorem m_fail_bP {A : MA} {e p : Nat} (hbp : bP A) : bP (m_fail A e p) := by
  unfold m_fail
  dsimp only
  by_cases hc : I (gN A 2) < aI A e 4 + 1
  · rw [if_pos hc]
    intro r hr
    rw [m_close_aP]
    refine m_post_bP ?_ _ _ r hr
    exact hbp
  · rw [if_neg hc]
    exact hbp
theorem m_fail_gN (A : MA) (e p : Nat) : gN (m_fail A e p) = gN A := by
  unfold m_fail
  dsimp only
  by_cases hc : I (gN A 2) < aI A e 4 + 1
  · rw [if_pos hc, m_close_gN, m_post_gN]
  · rw [if_neg hc]
theorem T_tp145 {A : MA} {T : St} (h : RT A T) (hbp : bP A) {e p w : Nat} (he : e < 2) (hp : p < 2) (hr : bR A e) (hpr : aN A e 2 < 2) : sat (f_M_tickPath_145 0 (I e) (I p) (I (2 * e + p)) 0 (I (2 * e + p)) (I w) (up3 T 1023 0 (2 * e + p) 1)) (fun T' => RT (m_fail (sB (sN (sN A e (7 + p) 1) e (9 + p) w) e (2 + p) false) e p) T') := by
  have h2 := rs_runs (rs_wait (rs_rate h (e := e) hp (v := 1) (w := 1) rfl) (e := e) hp (v := w) (w := I w) rfl) (e := e) hp (v := false) (w := 0) rfl
  unfold f_M_tickPath_145
  rw [inbT (show 2 * e + p < 4 by omega) (by decide), if_pos rfl, if_pos rfl, I_ix (by omega)]
  have hb2 : bP (sB (sN (sN A e (7 + p) 1) e (9 + p) w) e (2 + p) false) := hbp
  have hn : ∀ i, i < 7 ∨ 11 ≤ i → aN (sB (sN (sN A e (7 + p) 1) e (9 + p) w) e (2 + p) false) e i = aN A e i := fun i hi => by
    show up2 (up2 (aN A) e (7 + p) 1) e (9 + p) w e i = _
    rw [up2_ne2 (by omega), up2_ne2 (by omega)]
  have hr2 : bR (sB (sN (sN A e (7 + p) 1) e (9 + p) w) e (2 + p) false) e := ⟨hr.1, fun s hs => by rw [hn (23 + s) (by omega)]; exact hr.2 s hs⟩
  exact .bd (T_fail h2 hb2 he hp hr2 (by rw [hn 2 (by omega)]; exact hpr)) (fun T' h' => .some h')
theorem T_tickP {A : MA} {T : St} (h : RT A T) (hbp : bP A) {e p : Nat} (he : e < 2) (hp : p < 2) (hb : bO A e) (hr : bR A e) (ht : aN A e (11 + p) < 5000) : sat (f_M_tickPath 0 (I e) (I p) T) (fun T' => RT (m_tickP A e p) T') := by
  obtain ⟨b1, b2, b3, b4, b5, b6, b7, b8⟩ := id hb
  have b7 := b7 p hp
  have hc := cOut_le hb (p := p)
  have k197 : ∀ (B : MA) (T1 : St), RT B T1 → bP B → gN B = gN A → sat (f_M_tickPath_197 0 (I e) (I p) (I (2 * e + p)) T1) (fun T' => RT (if aI B e 0 = 3 then m_beat B e p else B) T') := by
    intro B T1 h1 hbB hgB
    unfold f_M_tickPath_197
    rw [inbT he (by decide), if_pos rfl, I_ix (by omega), rt_state h1 he]
    by_cases h3 : aI B e 0 = 3
    · rw [if_pos h3, if_pos h3, inbT (show 2 * e + p < 4 by omega) (by decide), if_pos rfl, if_pos rfl, if_pos rfl, I_ix (by omega), rt_now h1, rt_other h1 he]
      have h2 := rs_beat (rs_beating h1 (e := e) hp (v := true) (w := 1) rfl) (e := e) hp (v := I (gN B 0))
      exact .bd (T_post h2 hbB he hp) (fun T' h' => .some h')
    · rw [if_neg h3, if_neg h3]
      exact .some h1
  have k162 : ¬ (aB A e (2 + p) = true ∧ aN A e (11 + p) = gN A 0) → sat (f_M_tickPath_162 0 (I e) (I p) (I (2 * e + p)) T) (fun T' => RT (m_tickP A e p) T') := by
    intro hn
    unfold f_M_tickPath_162 m_tickP
    rw [if_neg hn, rt_now h]
    have hm : iRem (I (gN A 0)) 8 = I (gN A 0 % 8) := I_rem (b := 8) (by omega) (by decide)
    rw [hm]
    have hz : (I (gN A 0 % 8) = 0) ↔ gN A 0 % 8 = 0 := I_eq (b := 0) (by omega) (by decide)
    by_cases h8 : gN A 0 % 8 = 0
    · rw [if_pos (hz.mpr h8), T_cOut h he hp hb, bdS]
      have hz2 : (I (cOut A e p) = 0) ↔ cOut A e p = 0 := I_eq (b := 0) (by omega) (by decide)
      by_cases h0 : cOut A e p = 0
      · rw [if_pos (hz2.mpr h0), if_pos (show gN A 0 % 8 = 0 ∧ cOut A e p = 0 from ⟨h8, h0⟩), inbT (show 2 * e + p < 4 by omega) (by decide), if_pos rfl, I_ix (by omega), rt_beating h he hp, b01_nz]
        dsimp only
        cases hB : aB A e (4 + p) with
        | false =>
          rw [if_pos (show b01 false = 0 by decide)]
          simp only [Bool.false_eq_true, if_false]
          exact k197 A T h hbp rfl
        | true =>
          rw [if_neg (show ¬ b01 true = 0 by decide)]
          simp only [if_true]
          refine .bd (T_fail h hbp he hp hr b1) (fun T' h' => ?_)
          exact k197 _ T' h' (m_fail_bP hbp) (m_fail_gN A e p)
      · rw [if_neg (fun z => h0 (hz2.mp z)), if_neg (fun z => h0 z.2)]
        exact .some h
    · rw [if_neg (fun z => h8 (hz.mp z)), if_neg (fun z => h8 z.1)]
      exact .some h
  unfold f_M_tickPath
  have e1 : (2 : Int32) * I e + I p = I (2 * e + p) := by rw [show (2 : Int32) = I 2 from rfl, I_mul, I_add]
  rw [e1, inbT (show 2 * e + p < 4 by omega) (by decide), if_pos rfl, I_ix (by omega), rt_runs h he hp, b01_nz]
  cases hR : aB A e (2 + p) with
  | false =>
    rw [if_pos (by decide)]
    exact k162 (fun z => by rw [hR] at z; exact absurd z.1 Bool.false_ne_true)
  | true =>
    rw [if_neg (by decide), if_pos rfl, rt_timer h he hp, rt_now h]
    have ht2 : (I (aN A e (11 + p)) = I (gN A 0)) ↔ aN A e (11 + p) = gN A 0 := I_eq (by omega) (by omega)
    by_cases hT : aN A e (11 + p) = gN A 0
    · rw [if_pos (ht2.mpr hT), inbT he (by decide), if_pos rfl, I_ix (by omega), rt_gone h he, show (1 : Int32) = I 1 from rfl, I_add]
      refine T_mark h he hp hb (fun T1 h1 => ?_)
      rw [inbT (show 2 * e + p < 4 by omega) (by decide), if_pos rfl, if_pos rfl, I_ix (by omega), rt_wait h1 he hp, if_pos rfl]
      have hw : aN (m_mark A e p) e (9 + p) = aN A e (9 + p) := rfl
      have e2 : I (aN A e (9 + p)) * 2 = I (aN A e (9 + p) * 2) := I_mul _ 2
      rw [hw, e2]
      have e3 : ((24 : Int32) < I (aN A e (9 + p) * 2)) ↔ 24 < aN A e (9 + p) * 2 := I_lt (a := 24) (by decide) (by omega)
      unfold m_tickP
      rw [if_pos (show aB A e (2 + p) = true ∧ aN A e (11 + p) = gN A 0 from ⟨hR, hT⟩)]
      unfold m_late1
      by_cases h24 : 24 < aN A e (9 + p) * 2
      · rw [if_pos (e3.mpr h24), Nat.min_eq_left (by omega)]
        exact T_tp145 (w := 24) h1 hbp he hp hr b1
      · rw [if_neg (fun z => h24 (e3.mp z)), Nat.min_eq_right (by omega)]
        exact T_tp145 h1 hbp he hp hr b1
    · rw [if_neg (fun z => hT (ht2.mp z))]
      exact k162 (fun z => hT z.2)
