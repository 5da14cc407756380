theorem T_rew {A : MA} {T : St} (h : RT A T) {e p : Nat} (he : e < 2) (hp : p < 2) (hr : aN A e (7 + p) ≤ 8) {c : Nat} {g : Int32} {b : Bool} (hg : T 1030 0 (2 * e + p) = b01 b) : sat (f_M_sack_272_b 0 (I e) (I c) g (I (2 * e + p), T)) (Sum.elim (fun x => x.1 = I (2 * e + p + 1) ∧ RT (m_rew A e p b) x.2 ∧ x.2 1030 = T 1030) (fun _ => False)) := by
  have hgs : T cM_good 0 (2 * e + p) = b01 b := hg
  unfold f_M_sack_272_b f_M_sack_347 f_M_sack_356
  simp (disch := omega) only [I_lit, I_ix, inbT, if_true, I_add, I_mul, I_lt, hgs, b01_nz, rt_rate h he hp]
  rw [if_pos (by omega)]
  unfold m_rew
  cases b with
  | false =>
    rw [if_pos (by decide)]
    exact .some ⟨rfl, h, rfl⟩
  | true =>
    rw [if_neg (by decide)]
    have h3 := rs_wait (rs_allErrors (rs_errors h (e := e) hp (v := I 0)) (e := e) (v := I 0)) (e := e) hp (v := 3) (w := I 3) rfl
    have fr : ∀ w v, up3 (up3 (up3 (up3 (up3 T 1025 0 (2 * e + p) (I 0)) 1020 0 e (I 0)) 1024 0 (2 * e + p) (I 3)) 1023 0 (2 * e + p) w) 1022 0 (2 * e + p) v 1030 = T 1030 := fun w v => by
      rw [up3_code (by decide), up3_code (by decide), up3_code (by decide), up3_code (by decide), up3_code (by decide)]
    by_cases h8 : aN A e (7 + p) < 8
    · rw [if_pos h8]
      refine .some ⟨rfl, rs_act (rs_rate h3 (e := e) hp (v := min 8 (aN A e (7 + p) + 1)) (w := I (aN A e (7 + p) + 1)) (by rw [Nat.min_eq_right (by omega)])) hp rfl, ?_⟩
      dsimp only
      exact fr _ _
    · rw [if_neg h8]
      refine .some ⟨rfl, rs_act (rs_rate h3 (e := e) hp (v := min 8 (aN A e (7 + p) + 1)) (w := I 8) (by rw [Nat.min_eq_left (by omega)])) hp rfl, ?_⟩
      dsimp only
      exact fr _ _
theorem m_rew_bO {A : MA} {e p : Nat} {b : Bool} (hp : p < 2) (hb : bO A e) : bO (m_rew A e p b) e := by
  cases b with
  | false => exact hb
  | true =>
    obtain ⟨b1, b2, b3, b4, b5, b6, b7, b8⟩ := hb
    have k : ∀ i, aN (m_rew A e p true) e i = up2 (up2 (aN A) e (9 + p) 3) e (7 + p) (min 8 (aN A e (7 + p) + 1)) e i := fun _ => rfl
    have kn : ∀ i, i < 7 → aN (m_rew A e p true) e i = aN A e i := fun i hi => by rw [k, up2_ne2 (by omega), up2_ne2 (by omega)]
    refine ⟨by rw [kn 2 (by omega)]; exact b1, by rw [kn 3 (by omega), kn 4 (by omega)]; exact b2, by rw [kn 3 (by omega), kn 4 (by omega)]; exact b3, by rw [kn 4 (by omega)]; exact b4, b5, b6, fun q hq => ?_, b8⟩
    rw [k, k]
    have := b7 q hq
    unfold up2
    refine ⟨?_, ?_⟩
    · split
      · omega
      · rw [if_neg (by omega)]
        exact this.1
    · rw [if_neg (by omega)]
      split
      · omega
      · exact this.2
theorem m_rew_N {A : MA} {e p i : Nat} {b : Bool} (hi : i < 7) : aN (m_rew A e p b) e i = aN A e i := by
  cases b with
  | false => rfl
  | true =>
    show up2 (up2 (aN A) e (9 + p) 3) e (7 + p) (min 8 (aN A e (7 + p) + 1)) e i = _
    rw [up2_ne2 (by omega), up2_ne2 (by omega)]
theorem m_set1_bO {A : MA} {e p : Nat} {b : Bool} (hb : bO A e) : bO (m_set1 A e p b) e := by
  unfold m_set1
  split
  · exact hb
  · cases b with
    | false => exact hb
    | true =>
      obtain ⟨b1, b2, b3, b4, b5, b6, b7, b8⟩ := hb
      have k : ∀ i, i < 11 → aN (sN A e (11 + p) (gN A 0 + aN A e (9 + p))) e i = aN A e i := fun i hi => up2_ne2 (by omega)
      exact ⟨by rw [k 2 (by decide)]; exact b1, by rw [k 3 (by decide), k 4 (by decide)]; exact b2, by rw [k 3 (by decide), k 4 (by decide)]; exact b3, by rw [k 4 (by decide)]; exact b4, b5, b6, fun q hq => by rw [k (7 + q) (by omega), k (9 + q) (by omega)]; exact b7 q hq, b8⟩
theorem T_set1 {A : MA} {T : St} (h : RT A T) {e p : Nat} (he : e < 2) (hp : p < 2) (hb : bO A e) {b : Bool} (hg : T 1030 0 (2 * e + p) = b01 b) : sat (f_M_sack_374_b 0 (I e) (I (2 * e + p), T)) (Sum.elim (fun x => x.1 = I (2 * e + p + 1) ∧ RT (m_set1 A e p b) x.2 ∧ x.2 1030 = T 1030) (fun _ => False)) := by
  have hgs : T cM_good 0 (2 * e + p) = b01 b := hg
  have hco := cOut_le hb (p := p)
  have e1 : I (2 * e + p) - I (2 * e) = I p := by
    rw [I_sub (by omega)]
    congr 1
    omega
  have hcnt : f_M_count 0 (I e) (I 2) (I p) T = some (I (cOut A e p)) := T_cOut h he hp hb
  unfold f_M_sack_374_b f_M_sack_439
  simp (disch := omega) only [I_lit, I_ix, inbT, if_true, I_add, I_mul, I_lt, e1, hcnt, bdS, hgs, b01_nz, I_eq, rt_now h, rt_wait h he hp]
  rw [if_pos (by omega)]
  unfold m_set1
  by_cases h0 : cOut A e p = 0
  · rw [if_pos h0, if_pos h0]
    refine .some ⟨rfl, rs_runs h hp rfl, ?_⟩
    dsimp only
    rw [up3_code (by decide)]
  · rw [if_neg h0, if_neg h0]
    cases b with
    | false =>
      rw [if_pos (by decide)]
      exact .some ⟨rfl, h, rfl⟩
    | true =>
      rw [if_neg (by decide)]
      refine .some ⟨rfl, rs_timer h hp rfl, ?_⟩
      dsimp only
      rw [up3_code (by decide)]
theorem T_sack374 {A : MA} {T : St} (h : RT A T) (hbp : bP A) {e : Nat} (he : e < 2) (hb : bO A e) {b : Nat → Bool} (hg : ∀ p, p < 2 → T 1030 0 (2 * e + p) = b01 (b p)) : sat (f_M_sack_374 0 (I e) (I (2 * e), T)) (fun T' => RT (m_sendAll e 64 (m_set1 (m_set1 A e 0 (b 0)) e 1 (b 1))) T') := by
  unfold f_M_sack_374
  have hb1 : bO (m_set1 A e 0 (b 0)) e := m_set1_bO hb
  have hb2 : bO (m_set1 (m_set1 A e 0 (b 0)) e 1 (b 1)) e := m_set1_bO hb1
  have hp2 : bP (m_set1 (m_set1 A e 0 (b 0)) e 1 (b 1)) := by
    have : ∀ B p c, aP (m_set1 B e p c) = aP B := by
      intro B p c
      unfold m_set1
      split
      · rfl
      · cases c <;> rfl
    intro r hr
    rw [this, this]
    exact hbp r hr
  refine sat_upP (fun i x => x.1 = I (2 * e + i) ∧ RT (match i with | 0 => A | 1 => m_set1 A e 0 (b 0) | _ => m_set1 (m_set1 A e 0 (b 0)) e 1 (b 1)) x.2 ∧ x.2 1030 = T 1030) 2 (fun i x hi hx => ?_) (fun x hx => ?_) ⟨rfl, (show RT A T from h), rfl⟩ (by decide)
  · obtain ⟨c, T1⟩ := x
    obtain ⟨rfl, h1, h2⟩ := hx
    replace h2 : T1 1030 = T 1030 := h2
    have : i = 0 ∨ i = 1 := by omega
    rcases this with rfl | rfl
    · refine (T_set1 h1 he (p := 0) (by decide) hb (b := b 0) (by show T1 1030 0 _ = _; rw [h2]; exact hg 0 (by decide))).imp (fun x hx => ?_)
      cases x with
      | inr _ => exact hx
      | inl x => exact ⟨hx.1, hx.2.1, hx.2.2.trans h2⟩
    · refine (T_set1 h1 he (p := 1) (by decide) hb1 (b := b 1) (by show T1 1030 0 _ = _; rw [h2]; exact hg 1 (by decide))).imp (fun x hx => ?_)
      cases x with
      | inr _ => exact hx
      | inl x => exact ⟨hx.1, hx.2.1, hx.2.2.trans h2⟩
  · obtain ⟨c, T1⟩ := x
    obtain ⟨rfl, h1, h2⟩ := hx
    unfold f_M_sack_374_b
    dsimp only
    rw [if_neg (fun z => by
      rw [show (2 : Int32) * I e + 2 = I (2 * e + 2) by rw [show (2 : Int32) = I 2 from rfl, I_mul, I_add]] at z
      have := (I_lt (by omega) (by omega)).mp z
      omega)]
    exact .exW (.bd (T_swm h1 hp2 he hb2) (fun T' h' => .some h'))
theorem T_sack272 {A : MA} {T : St} (h : RT A T) (hbp : bP A) {e : Nat} (he : e < 2) (hb : bO A e) {g : Int32} {b : Nat → Bool} (hg : ∀ p, p < 2 → T 1030 0 (2 * e + p) = b01 (b p)) : sat (f_M_sack_272 0 (I e) (I (aN A e 3)) g (I (2 * e), T)) (fun T' => RT (m_sendAll e 64 (m_set1 (m_set1 (m_strk (m_rew (m_rew A e 0 (b 0)) e 1 (b 1)) e (topB g 16)) e 0 (b 0)) e 1 (b 1))) T') := by
  unfold f_M_sack_272
  have hb1 : bO (m_rew A e 0 (b 0)) e := m_rew_bO (by decide) hb
  have hb2 : bO (m_rew (m_rew A e 0 (b 0)) e 1 (b 1)) e := m_rew_bO (by decide) hb1
  have hn3 : aN (m_rew (m_rew A e 0 (b 0)) e 1 (b 1)) e 3 = aN A e 3 := by rw [m_rew_N (by decide), m_rew_N (by decide)]
  have hp2 : bP (m_rew (m_rew A e 0 (b 0)) e 1 (b 1)) := by
    have : ∀ B p c, aP (m_rew B e p c) = aP B := by
      intro B p c
      cases c <;> rfl
    intro r hr
    rw [this, this]
    exact hbp r hr
  have hp3 : ∀ k, bP (m_strk (m_rew (m_rew A e 0 (b 0)) e 1 (b 1)) e k) := by
    intro k
    generalize m_rew (m_rew A e 0 (b 0)) e 1 (b 1) = B at *
    have : ∀ C n, aP (m_str1 C e n) = aP C := by
      intro C n
      unfold m_str1
      split
      · split <;> rfl
      · rfl
    induction k with
    | zero => exact hp2
    | succ k ih =>
      intro r hr
      rw [m_strk, this]
      exact ih r hr
  refine sat_upP (fun i x => x.1 = I (2 * e + i) ∧ RT (match i with | 0 => A | 1 => m_rew A e 0 (b 0) | _ => m_rew (m_rew A e 0 (b 0)) e 1 (b 1)) x.2 ∧ x.2 1030 = T 1030) 2 (fun i x hi hx => ?_) (fun x hx => ?_) ⟨rfl, (show RT A T from h), rfl⟩ (by decide)
  · obtain ⟨c, T1⟩ := x
    obtain ⟨rfl, h1, h2⟩ := hx
    replace h2 : T1 1030 = T 1030 := h2
    have : i = 0 ∨ i = 1 := by omega
    rcases this with rfl | rfl
    · refine (T_rew h1 he (p := 0) (by decide) (hb.2.2.2.2.2.2.1 0 (by decide)).1 (b := b 0) (by show T1 1030 0 _ = _; rw [h2]; exact hg 0 (by decide))).imp (fun x hx => ?_)
      cases x with
      | inr _ => exact hx
      | inl x => exact ⟨hx.1, hx.2.1, hx.2.2.trans h2⟩
    · refine (T_rew h1 he (p := 1) (by decide) (hb1.2.2.2.2.2.2.1 1 (by decide)).1 (b := b 1) (by show T1 1030 0 _ = _; rw [h2]; exact hg 1 (by decide))).imp (fun x hx => ?_)
      cases x with
      | inr _ => exact hx
      | inl x => exact ⟨hx.1, hx.2.1, hx.2.2.trans h2⟩
  · obtain ⟨c, T1⟩ := x
    obtain ⟨rfl, h1, h2⟩ := hx
    replace h1 : RT (m_rew (m_rew A e 0 (b 0)) e 1 (b 1)) T1 := h1
    replace h2 : T1 1030 = T 1030 := h2
    unfold f_M_sack_272_b
    dsimp only
    rw [if_neg (fun z => by
      rw [show (2 : Int32) * I e + 2 = I (2 * e + 2) by rw [show (2 : Int32) = I 2 from rfl, I_mul, I_add]] at z
      have := (I_lt (by omega) (by omega)).mp z
      omega), ← hn3]
    refine .exW (.bd (T_strike h1 he hb2) (fun T2 h3 => ?_))
    rw [show (2 : Int32) * I e = I (2 * e) from I_mul 2 e]
    exact T_sack374 h3.1 (hp3 _) he (m_strk_bO hb2 _) (fun p hp => by rw [h3.2, h2]; exact hg p hp)
theorem m_hold_bO {A : MA} {e c : Nat} {g : Int32} (hb : bO A e) : bO (m_hold A e c g) e := by
  obtain ⟨b1, b2, b3, b4, b5, b6, b7, b8⟩ := hb
  have ko : ∀ m, oPa (m_hold A e c g) e m < 2 ∧ oSk (m_hold A e c g) e m ≤ 2 := by
    intro m
    show (if e = e ∧ m_ack c g m = true ∧ isOM A e m = true then (oWd A e m, (4 : Int32), oPa A e m, oSk A e m) else aO A e m).2.2.1 < 2 ∧ (if e = e ∧ m_ack c g m = true ∧ isOM A e m = true then (oWd A e m, (4 : Int32), oPa A e m, oSk A e m) else aO A e m).2.2.2 ≤ 2
    split
    · exact ⟨b5 m, b6 m⟩
    · exact ⟨b5 m, b6 m⟩
  exact ⟨b1, b2, b3, b4, fun m => (ko m).1, fun m => (ko m).2, b7, b8⟩
theorem sack1_bO {A : MA} {e c : Nat} {g w : Int32} (hb : bO A e) (h3 : aN A e 3 ≤ c) (h4 : c ≤ aN A e 4) : bO (m_sack1 A e c g w) e := by
  obtain ⟨b1, b2, b3, b4, b5, b6, b7, b8⟩ := m_hold_bO (c := c) (g := g) hb
  have k : ∀ i, aN (m_sack1 A e c g w) e i = up2 (up2 (aN A) e 22 c) e 3 c e i := fun _ => rfl
  have kn : ∀ i, i ≠ 3 → i ≠ 22 → aN (m_sack1 A e c g w) e i = aN A e i := fun i h1 h2 => by rw [k, up2_ne2 h1, up2_ne2 h2]
  have k3 : aN (m_sack1 A e c g w) e 3 = c := by rw [k, up2_eq]
  have b3' := hb.2.2.1
  refine ⟨by rw [kn 2 (by decide) (by decide)]; exact b1, by rw [k3, kn 4 (by decide) (by decide)]; exact h4, by rw [k3, kn 4 (by decide) (by decide)]; omega, by rw [kn 4 (by decide) (by decide)]; exact b4, b5, b6, fun p hp => ?_, b8⟩
  rw [kn (7 + p) (by omega) (by omega), kn (9 + p) (by omega) (by omega)]
  exact b7 p hp
theorem T_sack {A : MA} {T : St} (h : RT A T) (hbp : bP A) {e c : Nat} (he : e < 2) (hb : bO A e) (hs : aN A e 22 = aN A e 3) (hc : c < 5000) {q : Nat → Int32} (hq : ∀ j, j < 8 → T 1007 0 j = q j) (hq2 : q 2 = I c) : sat (f_M_sack 0 (I e) T) (fun T' => RT (if c < aN A e 22 ∨ aN A e 4 < c then A else m_sack A e c (q 3) (q 4)) T') := by
  obtain ⟨b1, b2, b3, b4, b5, b6, b7, b8⟩ := id hb
  unfold f_M_sack
  rw [if_pos (by decide), if_pos (by decide), inbT he (by decide), if_pos rfl, I_ix (by omega), show ix (2 : Int32) = 2 by decide, show ix (3 : Int32) = 3 by decide, hq 2 (by decide), hq 3 (by decide), hq2, rt_sackOf h he, rt_given h he]
  by_cases h1 : c < aN A e 22
  · rw [if_pos ((I_lt (by omega) (by omega)).mpr h1), if_pos (Or.inl h1)]
    exact .some h
  · rw [if_neg (fun z => h1 ((I_lt (by omega) (by omega)).mp z)), if_pos rfl]
    by_cases h2 : aN A e 4 < c
    · rw [if_pos ((I_lt (by omega) (by omega)).mpr h2), if_pos (Or.inr h2)]
      exact .some h
    · rw [if_neg (fun z => h2 ((I_lt (by omega) (by omega)).mp z)), if_neg (show ¬ (c < aN A e 22 ∨ aN A e 4 < c) from fun z => z.elim h1 h2)]
      rw [show (2 : Int32) * I e = I (2 * e) from I_mul 2 e, show (1 : Int32) = I 1 from rfl, I_add, inbT (show 2 * e < 4 by omega) (by decide), inbT (show 2 * e + 1 < 4 by omega) (by decide), if_pos rfl, if_pos rfl, if_pos rfl, if_pos rfl, I_ix (by omega), I_ix (by omega), rt_gone h he, I_add]
      have k1 : RT (sN A e 22 c) (up3 (up3 (up3 T 1041 0 e (I c)) 1030 0 (2 * e) 0) 1030 0 (2 * e + 1) 0) := RT_x (rs_sackOf h rfl) (fun x _ hx => by rw [up3_code hx, up3_code hx])
      have n3 : aN (sN A e 22 c) e 3 = aN A e 3 := up2_ne2 (by decide)
      have n4 : aN (sN A e 22 c) e 4 = aN A e 4 := up2_ne2 (by decide)
      have hb1 : bO (sN A e 22 c) e := by
        have kn : ∀ i, i ≠ 22 → aN (sN A e 22 c) e i = aN A e i := fun i hi => up2_ne2 hi
        exact ⟨by rw [kn 2 (by decide)]; exact b1, by rw [n3, n4]; exact b2, by rw [n3, n4]; exact b3, by rw [n4]; exact b4, b5, b6, fun p hp => by rw [kn (7 + p) (by omega), kn (9 + p) (by omega)]; exact b7 p hp, b8⟩
      have hT := fun P => T_sack72 (P := P) k1 (c := c) (g := q 3) he hb1 (by omega) (by rw [up3_at, if_neg (by omega), up3_at, if_pos rfl]) (by rw [up3_at, if_pos rfl])
      rw [n3] at hT
      refine hT _ (fun T2 h3 h4 h5 => ?_)
      have hT2 := fun P => T_sack201 (P := P) h3 (c := c) (g := q 3) he (m_hold_bO hb1) (by show aN (sN A e 22 c) e 3 ≤ c; omega) (by show c ≤ aN (sN A e 22 c) e 4; omega)
      have n3' : aN (m_hold (sN A e 22 c) e c (q 3)) e 3 = aN A e 3 := n3
      rw [n3'] at hT2
      refine hT2 _ (fun T3 h6 h7 h8 => ?_)
      have w4 : T3 1007 0 4 = q 4 := by
        rw [h7, h4, up3_code (by decide), up3_code (by decide), up3_code (by decide)]
        exact hq 4 (by decide)
      rw [w4]
      have h9 := rs_window h6 (e := e) (v := q 4)
      have hb3 : bO (m_sack1 A e c (q 3) (q 4)) e := sack1_bO hb (by omega) (by omega)
      have hbp3 : bP (m_sack1 A e c (q 3) (q 4)) := hbp
      have h10 : RT (m_sack1 A e c (q 3) (q 4)) (up3 T3 1021 0 e (q 4)) := h9
      have n5 : aN (m_sack1 A e c (q 3) (q 4)) e 3 = c := up2_eq
      have hm : ∀ p, m_good (sN A e 22 c) e c (q 3) p = m_good A e c (q 3) p := by
        intro p
        unfold m_good m_len
        rw [n3, n4]
        rfl
      have := T_sack272 h10 hbp3 he hb3 (g := q 3) (b := m_good A e c (q 3)) (fun p hp => by
        rw [up3_code (by decide), h8, h5 p hp, hm])
      rw [n5] at this
      exact this
