theorem T_swm227 {A : MA} {T : St} (h : RT A T) (hbp : bP A) {e n p : Nat} (he : e < 2) (hp : p < 2) (h1 : aN A e 3 < n) (h2 : n ≤ aN A e 4) (hl : aN A e 4 ≤ aN A e 3 + 24) {l2 : Int32} : sat (f_M_sendWhatMay_227 0 (I e) l2 (I n) (I (32 * e + n % 32)) (I p) T) (Sum.elim (fun x => x.1 = l2 + 1 ∧ RT (m_out A e n p) x.2) (fun _ => False)) := by
  unfold f_M_sendWhatMay_227
  obtain ⟨o1, o2, o3, o4, o5, o6, o7⟩ := rt_o h he h1 h2
  rw [T_full h hbp he hp, bdS]
  simp (disch := omega) only [I_ix, inbT, if_true, rt_other h he, o2]
  refine T_pm h hbp he hp (fun T' => f_M_sendWhatMay_295 0 (I e) l2 (I (32 * e + n % 32)) (I p) T') (c := I (oWd A e n).2.1) (d := I (oWd A e n).2.2.1) (x := wfl (oWd A e n)) (fun T' h' hc => ?_) (fun T' hc => ?_) (fun T' h' => ?_)
  · rw [if_neg hc, if_pos rfl]
    have := rt_o h' he (n := n) (by rw [m_post_aN]; exact h1) (by rw [m_post_aN]; exact h2)
    rw [m_post_aO] at this
    obtain ⟨q1, q2, q3, q4, q5, q6, q7⟩ := this
    simp only [I_lit, I_mul, I_add, q3, q4, q5]
  · rw [if_pos hc, if_neg (by decide)]
  · have h3 : RT (m_post A (2 * e + p) (pdat (aI A e 2) n (oWd A e n))) T' := RT_pkq (by rfl) h'
    have := T_swm295 h3 (n := n) (p := p) (l2 := l2) he hp (by rw [m_post_aN]; exact h1) (by rw [m_post_aN]; exact h2) (by rw [m_post_aN]; exact hl)
    simp only [oWd, m_post_aO] at this
    exact this
def sendR (A : MA) (e : Nat) (l2 : Int32) : (Int32 × St) ⊕ St → Prop := Sum.elim (fun x => x.1 = l2 + 1 ∧ ∃ A', m_sendOne A e = some A' ∧ RT A' x.2) (fun T' => m_sendOne A e = none ∧ RT A T')
theorem T_swm164 {A : MA} {T : St} (h : RT A T) (hbp : bP A) {e : Nat} (he : e < 2) (hb : bO A e) (hn : m_fst A e ≤ aN A e 4) {l2 : Int32} {l5 : Int32} (h5 : l5 = 0 ↔ oSt A e (m_fst A e) ≠ 1) (hp : m_path A e (m_fst A e) < 2) : sat (f_M_sendWhatMay_164 0 (I e) l2 (I (m_fst A e)) (I (32 * e + m_fst A e % 32)) l5 (I (m_path A e (m_fst A e))) T) (sendR A e l2) := by
  have hgt : aN A e 3 < m_fst A e := fstN_gt _ _ _
  have c1 := T_cSt h he hb (k := 2)
  have c2 := T_cSt h he hb (k := 3)
  have c3 := T_cOut h he hp hb
  have d1 := cSt_le hb (k := 2)
  have d2 := cSt_le hb (k := 3)
  have d3 := cOut_le hb (p := m_path A e (m_fst A e))
  have d1' : cSt A e (I 2) ≤ 24 := d1
  have d2' : cSt A e (I 3) ≤ 24 := d2
  have b7 := hb.2.2.2.2.2.2.1 _ hp
  unfold f_M_sendWhatMay_164
  have go : m_may A e (m_fst A e) (m_path A e (m_fst A e)) = true → sat (f_M_sendWhatMay_227 0 (I e) l2 (I (m_fst A e)) (I (32 * e + m_fst A e % 32)) (I (m_path A e (m_fst A e))) T) (sendR A e l2) := by
    intro hm
    refine (T_swm227 h hbp he hp hgt hn hb.2.2.1).imp (fun x hx => ?_)
    cases x with
    | inr _ => exact hx.elim
    | inl x =>
      refine ⟨hx.1, _, ?_, hx.2⟩
      unfold m_sendOne
      rw [if_neg (by omega), if_pos hm]
  have stop : ¬ m_may A e (m_fst A e) (m_path A e (m_fst A e)) = true → sendR A e l2 (Sum.inr T) := by
    intro hm
    refine ⟨?_, h⟩
    unfold m_sendOne
    rw [if_neg (by omega), if_neg hm]
  rw [c1, bdS, c2, bdS, c3, bdS]
  simp (disch := omega) only [I_ix, inbT, if_true, I_lit, I_mul, I_add, rt_rate h he hp, I_lt, rt_window h he]
  by_cases h1 : cOut A e (m_path A e (m_fst A e)) < aN A e (7 + m_path A e (m_fst A e))
  · rw [if_pos h1]
    by_cases h2 : l5 = 0
    · rw [if_pos (show l5 = I 0 from h2)]
      exact go (decide_eq_true ⟨h1, fun z => absurd z (h5.mp h2)⟩)
    · rw [if_neg (show ¬ l5 = I 0 from h2)]
      have h0 : oSt A e (m_fst A e) = 1 := Classical.byContradiction (fun z => h2 (h5.mpr z))
      by_cases h3 : I (cSt A e 2 + cSt A e 3) < aI A e 5
      · have h3' : I (cSt A e (I 2) + cSt A e (I 3)) < aI A e 5 := h3
        rw [if_pos h3']
        exact go (decide_eq_true ⟨h1, fun _ => Or.inl h3⟩)
      · have h3' : ¬ I (cSt A e (I 2) + cSt A e (I 3)) < aI A e 5 := h3
        rw [if_neg h3']
        by_cases h4 : 0 < cSt A e 2 + cSt A e 3
        · have h4' : 0 < cSt A e (I 2) + cSt A e (I 3) := h4
          rw [if_pos h4']
          refine .exW (.some (stop (fun z => ?_)))
          have := (of_decide_eq_true z).2 h0
          unfold m_und at this
          exact this.elim h3 (fun q => by omega)
        · have h4' : ¬ 0 < cSt A e (I 2) + cSt A e (I 3) := h4
          rw [if_neg h4']
          exact go (decide_eq_true ⟨h1, fun _ => Or.inr (by unfold m_und; omega)⟩)
  · rw [if_neg h1]
    exact .exW (.some (stop (fun z => h1 (of_decide_eq_true z).1)))
theorem m_path_lt {A : MA} {e n : Nat} (hb : bO A e) : m_path A e n < 2 := by
  unfold m_path
  split
  · have := hb.2.2.2.2.1 n
    omega
  · exact m_ptu_lt hb.1
theorem T_swm107 {A : MA} {T : St} (h : RT A T) (hbp : bP A) {e : Nat} (he : e < 2) (hb : bO A e) (hn : m_fst A e ≤ aN A e 4) {l2 : Int32} {s0 : Int32} (h5 : s0 = 0 ↔ oSt A e (m_fst A e) ≠ 1) : sat (f_M_sendWhatMay_107 0 (I e) l2 (I (m_fst A e)) (I (32 * e + m_fst A e % 32)) s0 T) (sendR A e l2) := by
  have hgt : aN A e 3 < m_fst A e := fstN_gt _ _ _
  obtain ⟨o1, o2, o3, o4, o5, o6, o7⟩ := rt_o h he hgt hn
  have hpa := hb.2.2.2.2.1 (m_fst A e)
  have hlt := m_path_lt (n := m_fst A e) hb
  have hac := rt_active h he (k := 1 - oPa A e (m_fst A e)) (by omega)
  rw [Nat.zero_add] at hac
  have hT := T_swm164 h hbp he hb hn (l2 := l2) (l5 := s0) h5 hlt
  unfold f_M_sendWhatMay_107 f_M_sendWhatMay_139 f_M_sendWhatMay_140
  rw [T_ptu h he hb.1, bdS]
  rw [show (0 : Int32) = I 0 from rfl, show (1 : Int32) = I 1 from rfl, show (2 : Int32) = I 2 from rfl, inbT (show 32 * e + m_fst A e % 32 < 64 by omega) (by decide), I_ix (a := 32 * e + m_fst A e % 32) (by omega), o6, I_mul, I_add, I_sub (show (aO A e (m_fst A e)).2.2.1 ≤ 2 * e + 1 by show oPa A e (m_fst A e) ≤ _; omega), I_sub (show (aO A e (m_fst A e)).2.2.1 ≤ 1 by show oPa A e (m_fst A e) ≤ _; omega)]
  rw [show 2 * e + 1 - (aO A e (m_fst A e)).2.2.1 = 2 * e + (1 - oPa A e (m_fst A e)) by show 2 * e + 1 - oPa A e (m_fst A e) = _; omega]
  rw [inbT (show 2 * e + (1 - oPa A e (m_fst A e)) < 4 by omega) (by decide), I_ix (by omega), hac, b01_nz]
  by_cases h0 : s0 = 0
  · have h1 := h5.mp h0
    rw [if_pos (show s0 = I 0 from h0), if_pos rfl, if_pos rfl]
    unfold m_path at hT
    cases hA : aB A e (1 - oPa A e (m_fst A e)) with
    | false =>
      rw [if_pos (by decide), if_pos (by decide)]
      rw [if_neg (fun z => by rw [hA] at z; exact absurd z.2 Bool.false_ne_true)] at hT
      exact hT
    | true =>
      rw [if_neg (by decide), if_neg (by decide), if_pos rfl]
      rw [if_pos ⟨h1, hA⟩] at hT
      exact hT
  · have h1 : oSt A e (m_fst A e) = 1 := Classical.byContradiction (fun z => h0 (h5.mpr z))
    rw [if_neg (show ¬ s0 = I 0 from h0), if_pos rfl]
    unfold m_path at hT
    rw [if_neg (fun z => z.1 h1)] at hT
    exact hT
theorem T_swm69 {A : MA} {T : St} (h : RT A T) (hbp : bP A) {e : Nat} (he : e < 2) (hb : bO A e) {l2 : Int32} : sat (f_M_sendWhatMay_69 0 (I e) l2 (I (m_fst A e)) T) (sendR A e l2) := by
  have hgt : aN A e 3 < m_fst A e := fstN_gt _ _ _
  have hle : m_fst A e ≤ aN A e 3 + m_len A e + 1 := fstN_le _ _ _
  obtain ⟨b1, b2, b3, b4, b5, b6, b7, b8⟩ := id hb
  unfold m_len at hle
  unfold f_M_sendWhatMay_69
  simp (disch := omega) only [I_lit, I_ix, inbT, if_true, rt_given h he, I_lt, I_mul, I_add, I_rem]
  by_cases hn : aN A e 4 < m_fst A e
  · rw [if_pos hn]
    refine .exW (.some ⟨?_, h⟩)
    unfold m_sendOne
    rw [if_pos hn]
  · rw [if_neg hn]
    obtain ⟨o1, o2, o3, o4, o5, o6, o7⟩ := rt_o h he hgt (by omega)
    rw [o1]
    by_cases h1 : oSt A e (m_fst A e) = I 1
    · rw [if_pos h1]
      exact T_swm107 h hbp he hb (by omega) ⟨fun z => absurd z (by decide), fun z => absurd h1 z⟩
    · rw [if_neg h1]
      exact T_swm107 h hbp he hb (by omega) ⟨fun _ => h1, fun _ => rfl⟩
theorem m_timer_bO {A : MA} {e p : Nat} (hb : bO A e) : bO (m_timer A e p) e := by
  unfold m_timer
  split
  · exact hb
  · obtain ⟨b1, b2, b3, b4, b5, b6, b7, b8⟩ := hb
    have k : ∀ i, i < 11 → aN (sN (sB A e (2 + p) true) e (11 + p) (gN A 0 + aN A e (9 + p))) e i = aN A e i := fun i hi => up2_ne2 (by omega)
    refine ⟨by rw [k 2 (by decide)]; exact b1, by rw [k 3 (by decide), k 4 (by decide)]; exact b2, by rw [k 3 (by decide), k 4 (by decide)]; exact b3, by rw [k 4 (by decide)]; exact b4, b5, b6, fun p' hp' => ?_, b8⟩
    rw [k (7 + p') (by omega), k (9 + p') (by omega)]
    exact b7 p' hp'
theorem m_out_bO {A : MA} {e n p : Nat} (hb : bO A e) (hp : p < 2) : bO (m_out A e n p) e := by
  unfold m_out
  refine m_timer_bO ?_
  obtain ⟨b1, b2, b3, b4, b5, b6, b7, b8⟩ := hb
  have k : aN (uO (m_post A (2 * e + p) (pdat (aI A e 2) n (oWd A e n))) (up2 (aO A) e n (oWd A e n, 2, p, 0))) = aN A := m_post_aN _ _ _
  have kg : gN (uO (m_post A (2 * e + p) (pdat (aI A e 2) n (oWd A e n))) (up2 (aO A) e n (oWd A e n, 2, p, 0))) = gN A := m_post_gN _ _ _
  unfold bO
  rw [k, kg]
  refine ⟨b1, b2, b3, b4, fun m => ?_, fun m => ?_, b7, b8⟩
  · show (up2 (aO A) e n (oWd A e n, 2, p, 0) e m).2.2.1 < 2
    unfold up2
    split
    · exact hp
    · exact b5 m
  · show (up2 (aO A) e n (oWd A e n, 2, p, 0) e m).2.2.2 ≤ 2
    unfold up2
    split
    · exact Nat.zero_le _
    · exact b6 m
theorem m_timer_aP (A : MA) (e p : Nat) : aP (m_timer A e p) = aP A := by unfold m_timer; split <;> rfl
theorem m_sendOne_b {A A' : MA} {e : Nat} (hbp : bP A) (hb : bO A e) (h : m_sendOne A e = some A') : bP A' ∧ bO A' e := by
  unfold m_sendOne at h
  split at h
  · cases h
  · split at h
    · cases h
      refine ⟨?_, m_out_bO hb (m_path_lt hb)⟩
      unfold m_out bP
      rw [m_timer_aP]
      exact m_post_bP hbp _ _
    · cases h
theorem T_swm {A : MA} {T : St} (h : RT A T) (hbp : bP A) {e : Nat} (he : e < 2) (hb : bO A e) : sat (f_M_sendWhatMay 0 (I e) T) (fun T' => RT (m_sendAll e 64 A) T') := by
  unfold f_M_sendWhatMay f_M_sendWhatMay_2
  refine sat_iter (fun j x => ∃ B, j ≤ 64 ∧ x.1 = I (64 - j) ∧ RT B x.2 ∧ bP B ∧ bO B e ∧ m_sendAll e j B = m_sendAll e 64 A) (P := fun T' => RT (m_sendAll e 64 A) T') ?_ (i := 64) (by decide) ⟨A, by decide, rfl, h, hbp, hb, rfl⟩
  rintro j ⟨c, T1⟩ ⟨B, hj, hx, h1, hbp1, hb1, hB⟩
  replace hx : c = I (64 - j) := hx
  replace h1 : RT B T1 := h1
  subst hx
  have hlt := hb1.2.2.2.1
  have hle := hb1.2.1
  unfold f_M_sendWhatMay_2_b
  simp (disch := omega) only [I_lit, I_ix, inbT, if_true, rt_gone h1 he, I_lt, I_add]
  cases j with
  | zero =>
    rw [if_neg (by omega)]
    rw [← hB]
    exact .exW (.some h1)
  | succ j =>
    rw [if_pos (by omega)]
    refine (T_swm17 h1 he hb1 (T_swm69 h1 hbp1 he hb1)).imp (fun x hx => ?_)
    cases x with
    | inr T2 =>
      have := hx.1
      rw [m_sendAll, this] at hB
      show RT (m_sendAll e 64 A) T2
      rw [← hB]
      exact hx.2
    | inl x =>
      obtain ⟨e1, A', e2, e3⟩ := hx
      rw [m_sendAll, e2] at hB
      obtain ⟨bp', bo'⟩ := m_sendOne_b hbp1 hb1 e2
      refine ⟨j, by omega, A', by omega, ?_, e3, bp', bo', hB⟩
      rw [e1, show (1 : Int32) = I 1 from rfl, I_add]
      congr 1
      omega
