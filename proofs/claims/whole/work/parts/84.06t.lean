theorem m_empty_eq (A : MA) (e : Nat) : sI (sI (sI (sN (eP (eO (eH (sN (sN (sN (sN A e 3 0) e 4 0) e 22 0) e 5 0) e 544) e 3) e 2) e 2 0) e 4 0) e 5 (I (gN A 1))) e 10 (sumR (aR A e)) = m_empty A e := by
  have k1 : up2 (up2 (up2 (up2 (up2 (aI A) e 6 0) e 7 0) e 4 0) e 5 (I (gN A 1))) e 10 (sumR (aR A e)) = fun x i => if x = e then m_eI A e i else aI A x i := by
    funext x i
    by_cases hx : x = e
    · subst hx
      rw [if_pos rfl]
      unfold m_eI up2
      simp only [true_and]
    · rw [if_neg hx]
      simp only [up2_ne1 hx]
  have k2 : up2 (up2 (up2 (up2 (up2 (up2 (up2 (up2 (up2 (up2 (up2 (up2 (up2 (up2 (up2 (aN A) e 3 0) e 4 0) e 22 0) e 5 0) e 13 0) e 16 0) e 14 0) e 17 0) e 15 0) e 18 0) e 7 2) e 9 3) e 8 2) e 10 3) e 2 0 = fun x i => if x = e then m_eN A e i else aN A x i := by
    funext x i
    by_cases hx : x = e
    · subst hx
      rw [if_pos rfl]
      unfold m_eN up2
      simp only [true_and]
    · rw [if_neg hx]
      simp only [up2_ne1 hx]
  have k3 : up2 (up2 (up2 (up2 (up2 (up2 (aB A) e 0 true) e 2 false) e 4 false) e 1 true) e 3 false) e 5 false = fun x i => if x = e then m_eB A e i else aB A x i := by
    funext x i
    by_cases hx : x = e
    · subst hx
      rw [if_pos rfl]
      unfold m_eB up2
      simp only [true_and]
    · rw [if_neg hx]
      simp only [up2_ne1 hx]
  unfold m_empty
  rw [← k1, ← k2, ← k3]
  rfl
theorem T_empty {A : MA} {T : St} (h : RT A T) {e : Nat} (he : e < 2) (hs : ∀ q ∈ aR A e, q.1 < 3) (hr : ∀ s, s < 3 → aN A e (23 + s) ≤ 512) : sat (f_M_empty 0 (I e) T) (fun T' => RT (m_empty A e) T') := by
  unfold f_M_empty
  simp (disch := omega) only [I_lit, inbT, I_ix, if_true]
  have h1 : RT (sN (sN A e 3 0) e 4 0) (up3 (up3 T 1031 0 e (I 0)) 1032 0 e (I 0)) := RT_gg h rfl rfl (fun e' he' n h1 h2 => by
    by_cases hc : e' = e
    · subst hc
      have : aN (sN (sN A e' 3 0) e' 4 0) e' 4 = 0 := up2_eq
      omega
    · have a1 : aN (sN (sN A e 3 0) e 4 0) e' 4 = aN A e' 4 := by
        show up2 (up2 (aN A) e 3 0) e 4 0 e' 4 = _
        rw [up2_ne1 hc, up2_ne1 hc]
      have a2 : aN (sN (sN A e 3 0) e 4 0) e' 3 = aN A e' 3 := by
        show up2 (up2 (aN A) e 3 0) e 4 0 e' 3 = _
        rw [up2_ne1 hc, up2_ne1 hc]
      exact rt_o h he' (by omega) (by omega))
  have h2 := rs_latest (rs_sackOf h1 (e := e) (v := 0) (w := I 0) rfl) (e := e) (v := 0) (w := I 0) rfl
  have := T_e30 h2 he (by
    show up2 (up2 (up2 (up2 (aN A) e 3 0) e 4 0) e 22 0) e 5 0 e 3 = 0
    rw [up2_ne2 (by decide), up2_ne2 (by decide), up2_ne2 (by decide), up2_eq]) (by
    show up2 (up2 (up2 (up2 (aN A) e 3 0) e 4 0) e 22 0) e 5 0 e 4 = 0
    rw [up2_ne2 (by decide), up2_ne2 (by decide), up2_eq]) hs (fun s hs' => by
    show up2 (up2 (up2 (up2 (aN A) e 3 0) e 4 0) e 22 0) e 5 0 e (23 + s) ≤ 512
    rw [up2_ne2 (by omega), up2_ne2 (by omega), up2_ne2 (by omega), up2_ne2 (by omega)]
    exact hr s hs')
  refine this.imp (fun T' h3 => ?_)
  rw [← m_empty_eq]
  exact h3
/-- what coming up and closing need -/
def bR (A : MA) (e : Nat) : Prop := (∀ q ∈ aR A e, q.1 < 3) ∧ ∀ s, s < 3 → aN A e (23 + s) ≤ 512
theorem T_comeUp {A : MA} {T : St} (h : RT A T) {e : Nat} (he : e < 2) (hr : bR A e) {o t : Int32} : sat (f_M_comeUp 0 (I e) o t T) (fun T' => RT (m_comeUp A e o t) T') := by
  unfold f_M_comeUp
  simp (disch := omega) only [inbT, I_ix, if_true]
  exact .bd (T_empty (rs_other (rs_own (rs_state h))) he hr.1 hr.2) (fun T' h' => .some h')
theorem T_close {A : MA} {T : St} (h : RT A T) {e : Nat} (he : e < 2) (hr : bR A e) {w : Int32} : sat (f_M_close 0 (I e) w T) (fun T' => RT (m_close A e w) T') := by
  unfold f_M_close
  simp (disch := omega) only [inbT, I_ix, if_true]
  exact .bd (T_empty (rs_report (rs_other (rs_own (rs_state h)))) he hr.1 hr.2) (fun T' h' => .some h')
theorem T_ptu {A : MA} {T : St} (h : RT A T) {e : Nat} (he : e < 2) (hp : aN A e 2 < 2) : f_M_pathToUse 0 (I e) T = some (I (m_ptu A e)) := by
  have h0 := rt_active h he hp
  have h1 := rt_active h he (k := 1 - aN A e 2) (by omega)
  unfold f_M_pathToUse f_M_pathToUse_35 m_ptu
  rw [Nat.zero_add] at h0 h1
  simp (disch := omega) only [I_lit, inbT, I_ix, if_true, rt_primary h he, I_mul, I_add, I_sub]
  rw [show 2 * e + 1 - aN A e 2 = 2 * e + (1 - aN A e 2) by omega, h0, h1, b01_nz, b01_nz]
  cases aB A e (aN A e 2) <;> cases aB A e (1 - aN A e 2) <;> rfl
theorem two_I {e : Nat} (he : e < 2) : ¬ f_M_isTwo (I e) = 0 := by
  have : e = 0 ∨ e = 1 := by omega
  rcases this with rfl | rfl <;> decide
theorem m_post_aI (A : MA) (r : Nat) (q : Pkt) : aI (m_post A r q) = aI A := by unfold m_post; split <;> rfl
theorem m_post_aN (A : MA) (r : Nat) (q : Pkt) : aN (m_post A r q) = aN A := by unfold m_post; split <;> rfl
theorem m_post_aB (A : MA) (r : Nat) (q : Pkt) : aB (m_post A r q) = aB A := by unfold m_post; split <;> rfl
theorem m_post_aO (A : MA) (r : Nat) (q : Pkt) : aO (m_post A r q) = aO A := by unfold m_post; split <;> rfl
theorem m_post_aH (A : MA) (r : Nat) (q : Pkt) : aH (m_post A r q) = aH A := by unfold m_post; split <;> rfl
theorem m_post_aW (A : MA) (r : Nat) (q : Pkt) : aW (m_post A r q) = aW A := by unfold m_post; split <;> rfl
theorem m_post_aR (A : MA) (r : Nat) (q : Pkt) : aR (m_post A r q) = aR A := by unfold m_post; split <;> rfl
theorem m_post_gN (A : MA) (r : Nat) (q : Pkt) : gN (m_post A r q) = gN A := by unfold m_post; split <;> rfl
theorem m_post_gI (A : MA) (r : Nat) (q : Pkt) : gI (m_post A r q) = gI A := by unfold m_post; split <;> rfl
theorem m_post_gT (A : MA) (r : Nat) (q : Pkt) : gT (m_post A r q) = gT A := by unfold m_post; split <;> rfl
abbrev bP (A : MA) : Prop := ∀ r, r < 4 → (aP A r).length ≤ 8
theorem m_post_bP {A : MA} (hb : bP A) (r : Nat) (q : Pkt) : bP (m_post A r q) := by
  intro r' hr'
  unfold m_post
  split
  · exact hb r' hr'
  · rename_i hc
    show (up1 (aP A) r (aP A r ++ [q]) r').length ≤ 8
    by_cases h : r' = r
    · subst h
      rw [up1_eq, List.length_append]
      have := hb r' hr'
      show _ + 1 ≤ 8
      omega
    · rw [up1_ne h]
      exact hb r' hr'
theorem bR_post {A : MA} {e : Nat} (hr : bR A e) (r : Nat) (q : Pkt) : bR (m_post A r q) e := by
  unfold bR at *
  rw [m_post_aR, m_post_aN]
  exact hr
theorem m_ptu_lt {A : MA} {e : Nat} (hp : aN A e 2 < 2) : m_ptu A e < 2 := by
  unfold m_ptu
  split <;> omega
theorem T_abort {A : MA} {T : St} (h : RT A T) (hb : bP A) {e : Nat} (he : e < 2) (hr : bR A e) (hp : aN A e 2 < 2) : sat (f_M_abort 0 (I e) T) (fun x => x.1 = (if aI A e 0 = 0 then 0 else 1) ∧ RT (if aI A e 0 = 0 then A else m_abort A e) x.2) := by
  unfold f_M_abort
  rw [if_neg (two_I he)]
  simp (disch := omega) only [inbT, I_ix, if_true, rt_state h he, T_ptu h he hp, rt_other h he]
  by_cases h0 : aI A e 0 = 0
  · rw [if_pos h0, if_pos h0]
    simp only [h0, if_true]
    exact .some ⟨rfl, h⟩
  · rw [if_neg h0]
    simp only [h0, if_false]
    unfold m_abort f_M_abort_48
    by_cases h3 : aI A e 0 = 3
    · rw [if_pos h3, if_pos h3]
      rw [bdS]
      exact .bd (T_post h hb he (m_ptu_lt hp)) (fun T' h' => .bd (T_close h' he (bR_post hr _ _)) (fun T2 h2 => .some ⟨rfl, h2⟩))
    · rw [if_neg h3, if_neg h3]
      exact .bd (T_close h he hr) (fun T2 h2 => .some ⟨rfl, h2⟩)
theorem T_primary {A : MA} {T : St} (h : RT A T) {e p : Nat} (he : e < 2) (hp : p < 2) : sat (f_M_primary 0 (I e) (I p) T) (fun x => x.1 = (if aI A e 0 = 3 then 1 else 0) ∧ RT (if aI A e 0 = 3 then sN A e 2 p else A) x.2) := by
  unfold f_M_primary
  rw [if_neg (two_I he), if_neg (two_I hp)]
  simp (disch := omega) only [inbT, I_ix, if_true, rt_state h he]
  by_cases h3 : aI A e 0 = 3
  · simp only [h3, if_true]
    exact .some ⟨rfl, rs_primary h rfl⟩
  · simp only [h3, if_false]
    exact .some ⟨rfl, h⟩
theorem T_waiting {A : MA} {T : St} (h : RT A T) {e p : Nat} (he : e < 2) (hp : p < 2) : f_M_waiting 0 (I e) (I p) T = some (I (aP A (2 * e + p)).length) := by
  unfold f_M_waiting
  rw [if_neg (two_I he), if_neg (two_I hp)]
  simp (disch := omega) only [I_lit, I_mul, I_add, inbT, I_ix, if_true, rt_rows h (show 2 * e + p < 4 by omega)]
