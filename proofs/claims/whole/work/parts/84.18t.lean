def grN (c : Nat) (g : Int32) : Nat → Nat
  | 0 => 0
  | k + 1 => if bitS g k = true then c + 1 + k else grN c g k
theorem grN_top (c : Nat) (g : Int32) : ∀ k, (grN c g k = 0 ∧ topB g k = 0) ∨ grN c g k = c + 1 + topB g k
  | 0 => Or.inl ⟨rfl, rfl⟩
  | k + 1 => by
    rw [grN, topB]
    by_cases h : bitS g k = true
    · rw [if_pos h, if_pos h]
      exact Or.inr rfl
    · rw [if_neg h, if_neg h]
      exact grN_top c g k
theorem grN_le (c : Nat) (g : Int32) : ∀ k, grN c g k ≤ c + k
  | 0 => Nat.zero_le _
  | k + 1 => by
    rw [grN]
    split
    · omega
    · have := grN_le c g k
      omega
theorem m_str1_N {A : MA} {e n i : Nat} (hi : i < 7 ∨ 9 ≤ i) (hb : ∀ n, oPa A e n < 2) : aN (m_str1 A e n) e i = aN A e i := by
  have := hb n
  unfold m_str1
  split
  · split
    · exact up2_ne2 (by omega)
    · rfl
  · rfl
theorem m_str1_bO {A : MA} {e n : Nat} (hb : bO A e) : bO (m_str1 A e n) e := by
  obtain ⟨b1, b2, b3, b4, b5, b6, b7, b8⟩ := hb
  have k : ∀ i, (i < 7 ∨ 9 ≤ i) → aN (m_str1 A e n) e i = aN A e i := fun i hi => m_str1_N hi b5
  have kg : gN (m_str1 A e n) = gN A := by
    unfold m_str1
    split
    · split <;> rfl
    · rfl
  have ko : ∀ m, oPa (m_str1 A e n) e m < 2 ∧ oSk (m_str1 A e n) e m ≤ 2 := by
    intro m
    unfold m_str1
    split
    · split
      · show (up2 (aO A) e n (oWd A e n, 3, oPa A e n, 0) e m).2.2.1 < 2 ∧ (up2 (aO A) e n (oWd A e n, 3, oPa A e n, 0) e m).2.2.2 ≤ 2
        unfold up2
        split
        · exact ⟨b5 n, Nat.zero_le _⟩
        · exact ⟨b5 m, b6 m⟩
      · rename_i h3
        show (up2 (aO A) e n (oWd A e n, 2, oPa A e n, oSk A e n + 1) e m).2.2.1 < 2 ∧ (up2 (aO A) e n (oWd A e n, 2, oPa A e n, oSk A e n + 1) e m).2.2.2 ≤ 2
        unfold up2
        split
        · have := b6 n
          exact ⟨b5 n, (by show oSk A e n + 1 ≤ 2; omega)⟩
        · exact ⟨b5 m, b6 m⟩
    · exact ⟨b5 m, b6 m⟩
  refine ⟨by rw [k 2 (by omega)]; exact b1, by rw [k 3 (by omega), k 4 (by omega)]; exact b2, by rw [k 3 (by omega), k 4 (by omega)]; exact b3, by rw [k 4 (by omega)]; exact b4, fun m => (ko m).1, fun m => (ko m).2, fun p hp => ⟨?_, by rw [k (9 + p) (by omega)]; exact (b7 p hp).2⟩, by rw [kg]; exact b8⟩
  have h7 := (b7 p hp).1
  unfold m_str1
  split
  · split
    · show up2 (aN A) e (7 + oPa A e n) (max 1 (aN A e (7 + oPa A e n) / 2)) e (7 + p) ≤ 8
      unfold up2
      split
      · have := (b7 (oPa A e n) (b5 n)).1
        omega
      · exact h7
    · exact h7
  · exact h7
theorem m_strk_bO {A : MA} {e : Nat} (hb : bO A e) : ∀ k, bO (m_strk A e k) e
  | 0 => hb
  | k + 1 => m_str1_bO (m_strk_bO hb k)
theorem m_strk_N {A : MA} {e i : Nat} (hi : i < 7 ∨ 9 ≤ i) (hb : bO A e) : ∀ k, aN (m_strk A e k) e i = aN A e i
  | 0 => rfl
  | k + 1 => by
    rw [m_strk, m_str1_N hi (m_strk_bO hb k).2.2.2.2.1, m_strk_N hi hb k]
theorem m_strk_stop {A : MA} {e : Nat} (hb : bO A e) {a : Nat} (ha : aN A e 4 ≤ aN A e 3 + a) : ∀ k, m_strk A e (a + k) = m_strk A e a
  | 0 => rfl
  | k + 1 => by
    have h4 := m_strk_N (i := 4) (by omega) hb (a + k)
    show m_str1 (m_strk A e (a + k)) e (aN A e 3 + (a + k) + 1) = _
    unfold m_str1
    rw [if_neg (fun z => by have := z.1; omega)]
    exact m_strk_stop hb ha k
theorem T_str1 {A : MA} {T : St} (h : RT A T) {e n gr : Nat} (he : e < 2) (hb : bO A e) (h1 : aN A e 3 < n) (h2 : n ≤ aN A e 4) (hg : n < gr) (hg2 : gr < 5000) : sat (f_M_strike_52_b 0 (I e) (I gr) (I n, T)) (Sum.elim (fun x => x.1 = I (n + 1) ∧ RT (m_str1 A e n) x.2 ∧ x.2 1030 = T 1030) (fun _ => False)) := by
  obtain ⟨b1, b2, b3, b4, b5, b6, b7, b8⟩ := id hb
  obtain ⟨o1, o2, o3, o4, o5, o6, o7⟩ := rt_o h he h1 h2
  have hpa := b5 n
  have hsk := b6 n
  have hr8 := (b7 (oPa A e n) hpa).1
  have hrt := rt_rate h he hpa
  have hst : up3 T cM_strikes 0 (32 * e + n % 32) (I ((aO A e n).2.2.2 + 1)) cM_strikes 0 (32 * e + n % 32) = I ((aO A e n).2.2.2 + 1) := by rw [up3_at, if_pos rfl]
  have hpa' : (aO A e n).2.2.1 < 2 := hpa
  have hsk' : (aO A e n).2.2.2 ≤ 2 := hsk
  have hrt' : T cM_rate 0 (2 * e + (aO A e n).2.2.1) = I (aN A e (7 + (aO A e n).2.2.1)) := hrt
  have hr8' : aN A e (7 + (aO A e n).2.2.1) ≤ 8 := hr8
  unfold f_M_strike_52_b f_M_strike_177 f_M_strike_176
  simp (maxSteps := 1000000) (disch := omega) only [I_lit, I_ix, inbT, if_true, I_add, I_mul, I_rem, I_lt, rt_given h he, o1, o6, o7, hst, hrt', I_div, I_eq]
  rw [if_neg (by omega), if_pos hg]
  unfold m_str1
  by_cases c2 : oSt A e n = 2
  · rw [if_pos (show oSt A e n = I 2 from c2)]
    have hm : n ≤ aN A e 4 ∧ oSt A e n = 2 := ⟨h2, c2⟩
    simp only [if_pos hm]
    by_cases c3 : oSk A e n + 1 = 3
    · rw [if_pos (show (aO A e n).2.2.2 + 1 = 3 from c3)]
      simp only [if_pos c3]
      have hO : RT (uO A (up2 (aO A) e n (oWd A e n, 3, oPa A e n, 0))) (up3 (up3 (up3 T 1040 0 (32 * e + n % 32) (I ((aO A e n).2.2.2 + 1))) 1034 0 (32 * e + n % 32) (I 3)) 1040 0 (32 * e + n % 32) (I 0)) := by
        refine RT_oW h he h1 h2 b3 (fun x hx => by rw [up3_code (by omega), up3_code (by omega), up3_code (by omega)]) (fun x hx hy j hj => ?_) ⟨?_, ?_, ?_, ?_, ?_, ?_, ?_⟩
        · have k1 : ∀ (S : St) (y : Nat) (w : Int32), up3 S y 0 (32 * e + n % 32) w x 0 j = S x 0 j := by
            intro S y w
            by_cases hy : x = y
            · subst hy
              rw [up3_at, if_neg hj]
            · rw [up3_code hy]
          rw [k1, k1, k1]
        · rw [up3_code (by decide), up3_at, if_pos rfl]; rfl
        · rw [up3_code (by decide), up3_code (by decide), up3_code (by decide)]; exact o2
        · rw [up3_code (by decide), up3_code (by decide), up3_code (by decide)]; exact o3
        · rw [up3_code (by decide), up3_code (by decide), up3_code (by decide)]; exact o4
        · rw [up3_code (by decide), up3_code (by decide), up3_code (by decide)]; exact o5
        · rw [up3_code (by decide), up3_code (by decide), up3_code (by decide)]; exact o6
        · rw [up3_at, if_pos rfl]
      by_cases c4 : aN A e (7 + oPa A e n) / 2 < 1
      · rw [if_pos (show aN A e (7 + (aO A e n).2.2.1) / 2 < 1 from c4)]
        refine .some ⟨I_add n 1, ?_, ?_⟩
        · have := rs_rate hO (e := e) hpa (v := max 1 (aN A e (7 + oPa A e n) / 2)) (w := I 1) (by rw [Nat.max_eq_left (by omega)])
          exact this
        · dsimp only
          rw [up3_code (by decide), up3_code (by decide), up3_code (by decide), up3_code (by decide)]
      · rw [if_neg (show ¬ aN A e (7 + (aO A e n).2.2.1) / 2 < 1 from c4)]
        refine .some ⟨I_add n 1, ?_, ?_⟩
        · have := rs_rate hO (e := e) hpa (v := max 1 (aN A e (7 + oPa A e n) / 2)) (w := I (aN A e (7 + oPa A e n) / 2)) (by rw [Nat.max_eq_right (by omega)])
          exact this
        · dsimp only
          rw [up3_code (by decide), up3_code (by decide), up3_code (by decide), up3_code (by decide)]
    · rw [if_neg (show ¬ (aO A e n).2.2.2 + 1 = 3 from c3)]
      simp only [if_neg c3]
      refine .some ⟨rfl, ?_, ?_⟩
      · dsimp only
        refine RT_oW h he h1 h2 b3 (fun x hx => by rw [up3_code (show x ≠ 1040 by omega)]) (fun x hx hy j hj => ?_) ⟨?_, ?_, ?_, ?_, ?_, ?_, ?_⟩
        · by_cases hy : x = 1040
          · subst hy
            rw [up3_at, if_neg hj]
          · rw [up3_code hy]
        · rw [up3_code (by decide), o1]; exact c2
        · rw [up3_code (by decide)]; exact o2
        · rw [up3_code (by decide)]; exact o3
        · rw [up3_code (by decide)]; exact o4
        · rw [up3_code (by decide)]; exact o5
        · rw [up3_code (by decide)]; exact o6
        · rw [up3_at, if_pos rfl]
      · dsimp only
        rw [up3_code (by decide)]
  · rw [if_neg (show ¬ oSt A e n = I 2 from c2)]
    have hm : ¬ (n ≤ aN A e 4 ∧ oSt A e n = 2) := fun z => c2 z.2
    simp only [if_neg hm]
    exact .some ⟨rfl, h, rfl⟩
theorem T_strike {A : MA} {T : St} (h : RT A T) {e : Nat} (he : e < 2) (hb : bO A e) {g : Int32} : sat (f_M_strike 0 (I e) (I (aN A e 3)) g T) (fun T' => RT (m_strk A e (topB g 16)) T' ∧ T' 1030 = T 1030) := by
  obtain ⟨b1, b2, b3, b4, b5, b6, b7, b8⟩ := id hb
  unfold f_M_strike f_M_strike_6
  refine sat_upP (fun i x => x = (I (grN (aN A e 3) g i), I i)) 16 (fun i x hi hx => ?_) (fun x hx => ?_) rfl (by decide)
  · subst hx
    unfold f_M_strike_6_b f_M_strike_34
    dsimp only
    rw [if_pos (show I i < 16 from (I_lt (b := 16) (by omega) (by decide)).mpr hi)]
    by_cases hbit : iShr g (I i) &&& 1 = 1
    · rw [if_pos hbit]
      refine .some ?_
      rw [grN, if_pos (show bitS g i = true from decide_eq_true hbit), show (1 : Int32) = I 1 from rfl, I_add, I_add, I_add]
      rfl
    · rw [if_neg hbit]
      refine .some ?_
      rw [grN, if_neg (show ¬ bitS g i = true from fun z => hbit (of_decide_eq_true z)), show (1 : Int32) = I 1 from rfl, I_add]
      rfl
  · subst hx
    unfold f_M_strike_6_b f_M_strike_52
    have hle := grN_le (aN A e 3) g 16
    have htop := grN_top (aN A e 3) g 16
    generalize hG : grN (aN A e 3) g 16 = G at *
    dsimp only
    rw [if_neg (show ¬ I 16 < 16 by decide), inbT he (by decide), if_pos rfl, I_ix (by omega), rt_gone h he, show (1 : Int32) = I 1 from rfl, I_add]
    refine .exW (sat_upP (fun i x => x.1 = I (aN A e 3 + 1 + i) ∧ RT (m_strk A e i) x.2 ∧ x.2 1030 = T 1030) (min (m_len A e) (topB g 16)) (fun i x hi hx => ?_) (fun x hx => ?_) ⟨rfl, (show RT (m_strk A e 0) T from h), rfl⟩ (by unfold m_len; omega))
    · obtain ⟨d, T1⟩ := x
      obtain ⟨rfl, h1, h2⟩ := hx
      replace h1 : RT (m_strk A e i) T1 := h1
      replace h2 : T1 1030 = T 1030 := h2
      unfold m_len at hi
      have n3 := m_strk_N (i := 3) (by omega) hb i
      have n4 := m_strk_N (i := 4) (by omega) hb i
      refine (T_str1 h1 (n := aN A e 3 + 1 + i) (gr := G) he (m_strk_bO hb i) (by omega) (by omega) (by omega) (by omega)).imp (fun x hx => ?_)
      cases x with
      | inr _ => exact hx
      | inl x =>
        refine ⟨hx.1, ?_, hx.2.2.trans h2⟩
        show RT (m_str1 (m_strk A e i) e (aN A e 3 + i + 1)) x.2
        rw [show aN A e 3 + i + 1 = aN A e 3 + 1 + i by omega]
        exact hx.2.1
    · obtain ⟨d, T1⟩ := x
      obtain ⟨rfl, h1, h2⟩ := hx
      replace h1 : RT (m_strk A e (min (m_len A e) (topB g 16))) T1 := h1
      replace h2 : T1 1030 = T 1030 := h2
      have n4 := m_strk_N (i := 4) (by omega) hb (min (m_len A e) (topB g 16))
      have fin : RT (m_strk A e (topB g 16)) T1 := by
        by_cases hm : m_len A e ≤ topB g 16
        · rw [Nat.min_eq_left hm] at h1
          have := m_strk_stop hb (a := m_len A e) (by unfold m_len; omega) (topB g 16 - m_len A e)
          rw [show m_len A e + (topB g 16 - m_len A e) = topB g 16 by omega] at this
          rw [this]
          exact h1
        · rw [Nat.min_eq_right (by omega)] at h1
          exact h1
      have hgv : T1 cM_given 0 e = I (aN A e 4) := by
        rw [rt_given h1 he, n4]
      have hmin : min (m_len A e) (topB g 16) ≤ m_len A e := Nat.min_le_left _ _
      have hmin2 : min (m_len A e) (topB g 16) = m_len A e ∨ min (m_len A e) (topB g 16) = topB g 16 := by omega
      unfold f_M_strike_52_b
      unfold m_len at *
      dsimp only
      rw [inbT he (by decide), if_pos rfl, I_ix (by omega), hgv]
      generalize min (aN A e 4 - aN A e 3) (topB g 16) = K at *
      by_cases hx : aN A e 4 < aN A e 3 + 1 + K
      · rw [if_pos ((I_lt (by omega) (by omega)).mpr hx)]
        exact .exW (.some ⟨fin, h2⟩)
      · rw [if_neg (fun z => hx ((I_lt (by omega) (by omega)).mp z)), if_neg (fun z => by have := (I_lt (by omega) (by omega)).mp z; omega)]
        exact .exW (.some ⟨fin, h2⟩)
