theorem T_216 {A : MA} {T : St} (h : RT A T) (hbp : bP A) {e p : Nat} (he : e < 2) (hp : p < 2) (hl : aN A e 5 ≤ 527) : sat (f_M_data_216 0 (I e) (I p) T) (fun T' => RT (m_post A (2 * e + p) (m_sackP A e)) T') := by
  unfold f_M_data_216 f_M_data_222
  refine sat_upP (fun i x => x = (gapB (aH A e 0) (aN A e 5) i, I i)) 16 (fun i x hi hx => ?_) (fun x hx => ?_) rfl (by decide)
  · subst hx
    obtain ⟨q1, q2, q3⟩ := rt_h h he (n := aN A e 5 + 1 + i) (by omega)
    unfold f_M_data_222_b f_M_data_266
    have e1 : (544 : Int32) * I e + I (aN A e 5) + 1 + I i = I (544 * e + (aN A e 5 + 1 + i)) := by
      rw [show (544 : Int32) = I 544 from rfl, show (1 : Int32) = I 1 from rfl, I_mul, I_add, I_add, I_add]
      congr 1
      omega
    dsimp only
    rw [if_pos (show I i < 16 from (I_lt (b := 16) (by omega) (by decide)).mpr hi), inbT he (by decide), if_pos rfl, I_ix (by omega), rt_latest h he, e1, inbT (show 544 * e + (aN A e 5 + 1 + i) < 1088 by omega) (by decide), if_pos rfl, I_ix (by omega), q1, b01_nz]
    cases hh : aH A e 0 (aN A e 5 + 1 + i) with
    | false =>
      rw [if_pos (by decide)]
      refine .some ?_
      rw [gapB, if_neg (by rw [hh]; decide)]
      exact congrArg (fun z => (_, z)) (I_add i 1)
    | true =>
      rw [if_neg (by decide)]
      refine .some ?_
      rw [gapB, if_pos hh]
      exact congrArg (fun z => (_, z)) (I_add i 1)
  · subst hx
    unfold f_M_data_222_b f_M_data_338
    dsimp only
    rw [if_neg (show ¬ I 16 < 16 by decide), T_full h hbp he hp, bdS, inbT he (by decide), if_pos rfl, if_pos rfl, if_pos rfl, I_ix (by omega), rt_other h he, rt_latest h he, rt_room h, rt_kept h he]
    refine .exW ?_
    refine T_pm h hbp he hp some (c := m_free A e) (d := 0) (x := 0) (fun T' h' hc => ?_) (fun T' hc => ?_) (fun T' h' => .some (RT_pkq (by rfl) h'))
    · rw [if_neg hc, if_pos rfl, show (2 : Int32) * I e + I p = I (2 * e + p) by rw [show (2 : Int32) = I 2 from rfl, I_mul, I_add]]
      unfold m_free
      by_cases hz : I (gN A 1) - aI A e 10 < 0
      · rw [if_pos hz, if_pos hz]
      · rw [if_neg hz, if_neg hz]
    · rw [if_pos hc, if_neg (by decide)]
theorem sN_twice (A : MA) (e i v w : Nat) : sN (sN A e i v) e i w = sN A e i w := by
  obtain ⟨a, b, r⟩ := A
  show (a, up2 (up2 b e i v) e i w, r) = (a, up2 b e i w, r)
  congr 2
  funext x y
  unfold up2
  split <;> rfl
theorem T_late {A : MA} {T : St} (h : RT A T) {e : Nat} (he : e < 2) (hl : aN A e 5 ≤ 527) (hb : ∀ n, aH A e 0 n = true → n < 528) {l2 : Int32} {P : St → Prop} (hP : ∀ T', RT (m_late A e) T' → sat (bd2 (f_M_oneReady 0 (I e) T') (fun r S => f_M_data_201 0 (I e) l2 (r, S))) P) : sat (f_M_data_159 0 (I e) l2 T) P := by
  unfold f_M_data_159
  refine sat_iter (fun j S => ∃ a, aN A e 5 ≤ a ∧ a ≤ 527 ∧ j + a = 544 + aN A e 5 ∧ RT (sN A e 5 a) S ∧ runN (aH A e 0) a j = runN (aH A e 0) (aN A e 5) 544) (P := P) ?_ (i := 544) (by decide) ⟨aN A e 5, Nat.le_refl _, hl, rfl, by rw [sN_same]; exact h, rfl⟩
  rintro j S ⟨a, h1, h2, h3, h4, h5⟩
  obtain ⟨q1, q2, q3⟩ := rt_h h4 he (n := a + 1) (by omega)
  have hla : S cM_latest 0 e = I a := by
    rw [rt_latest h4 he]
    exact congrArg I up2_eq
  unfold f_M_data_159_b
  have e1 : (544 : Int32) * I e + I a + 1 = I (544 * e + (a + 1)) := by
    rw [show (544 : Int32) = I 544 from rfl, show (1 : Int32) = I 1 from rfl, I_mul, I_add, I_add]
    congr 1
  rw [inbT he (by decide), if_pos rfl, I_ix (by omega), hla, e1, inbT (show 544 * e + (a + 1) < 1088 by omega) (by decide), if_pos rfl, I_ix (by omega), q1, b01_nz]
  have hH : aH (sN A e 5 a) e 0 (a + 1) = aH A e 0 (a + 1) := rfl
  rw [hH]
  cases j with
  | zero => omega
  | succ j =>
    rw [runN] at h5
    cases hh : aH A e 0 (a + 1) with
    | false =>
      rw [if_pos (by decide)]
      rw [if_neg (by rw [hh]; decide)] at h5
      refine .exW (hP S ?_)
      unfold m_late
      rw [← h5]
      exact h4
    | true =>
      rw [if_neg (by decide), if_pos rfl, if_pos rfl, show (1 : Int32) = I 1 from rfl, I_add]
      rw [if_pos hh] at h5
      have := hb _ hh
      have h6 := rs_latest h4 (e := e) (v := a + 1) (w := I (a + 1)) rfl
      rw [sN_twice] at h6
      exact .some ⟨j, by omega, a + 1, by omega, by omega, by omega, h6, h5⟩
theorem RT_put {A : MA} {T : St} (h : RT A T) {e n : Nat} (he : e < 2) (hn : n < 544) {w : WC} : RT (m_put A e n w) (up3 (up3 (up3 (up3 (up3 (up3 (up3 T 1043 0 (544 * e + n) 1) 1044 0 (544 * e + n) 1) 1045 0 (544 * e + n) w.1) 1046 0 (544 * e + n) (I w.2.1)) 1047 0 (544 * e + n) (I w.2.2.1)) 1048 0 (544 * e + n) (wfl w)) 1050 0 e (aI A e 10 + 1)) := by
  refine rs_kept (A := uW (uH A (fun x k i => if x = e ∧ k < 2 ∧ i = n then true else aH A x k i)) (up2 (aW A) e n w)) ?_
  refine RT_H h (fun x hx => by rw [up3_code (by omega), up3_code (by omega), up3_code (by omega), up3_code (by omega), up3_code (by omega), up3_code (by omega)]) (fun e' he' k hk => ?_)
  obtain ⟨q1, q2, q3⟩ := rt_h h he' hk
  by_cases hc : e' = e ∧ k = n
  · obtain ⟨rfl, rfl⟩ := hc
    have f : ∀ j, j < 2 → (if e' = e' ∧ j < 2 ∧ k = k then true else aH A e' j k) = true := fun j hj => if_pos ⟨rfl, hj, rfl⟩
    rw [f 0 (by decide), f 1 (by decide), up2_eq]
    refine ⟨?_, ?_, fun _ => ⟨?_, ?_, ?_, ?_⟩⟩
    · rw [up3_code (by decide), up3_code (by decide), up3_code (by decide), up3_code (by decide), up3_code (by decide), up3_at, if_pos rfl]; rfl
    · rw [up3_code (by decide), up3_code (by decide), up3_code (by decide), up3_code (by decide), up3_at, if_pos rfl]; rfl
    · rw [up3_code (by decide), up3_code (by decide), up3_code (by decide), up3_at, if_pos rfl]
    · rw [up3_code (by decide), up3_code (by decide), up3_at, if_pos rfl]
    · rw [up3_code (by decide), up3_at, if_pos rfl]
    · rw [up3_at, if_pos rfl]
  · have f : ∀ j, (if e' = e ∧ j < 2 ∧ k = n then true else aH A e' j k) = aH A e' j k := fun j => if_neg (fun z => hc ⟨z.1, z.2.2⟩)
    have hj : 544 * e' + k ≠ 544 * e + n := by omega
    have k1 : ∀ (S : St) (x y : Nat) (v : Int32), up3 S y 0 (544 * e + n) v x 0 (544 * e' + k) = S x 0 (544 * e' + k) := by
      intro S x y v
      by_cases hy : x = y
      · subst hy
        rw [up3_at, if_neg hj]
      · rw [up3_code hy]
    have hu : up2 (aW A) e n w e' k = aW A e' k := if_neg hc
    rw [f 0, f 1, hu]
    unfold wT at *
    simp only [k1]
    exact ⟨q1, q2, q3⟩
theorem runN_ge (f : Nat → Bool) : ∀ k a, a ≤ runN f a k
  | 0, a => Nat.le_refl _
  | k + 1, a => by
    rw [runN]
    split
    · have := runN_ge f k (a + 1)
      omega
    · exact Nat.le_refl _
theorem runN_had (f : Nat → Bool) : ∀ k a, a < runN f a k → f (runN f a k) = true
  | 0, a => fun h => by rw [runN] at h; omega
  | k + 1, a => fun h => by
    rw [runN] at h ⊢
    by_cases hf : f (a + 1) = true
    · rw [if_pos hf] at h ⊢
      by_cases hz : a + 1 < runN f (a + 1) k
      · exact runN_had f k (a + 1) hz
      · have := runN_ge f k (a + 1)
        rw [show runN f (a + 1) k = a + 1 by omega]
        exact hf
    · rw [if_neg hf] at h
      omega
theorem bW_late {A : MA} {e : Nat} (hb : bW A e) : bW (m_late A e) e := by
  obtain ⟨b1, b2, b3, b4, b5⟩ := hb
  have n5 : aN (m_late A e) e 5 = runN (aH A e 0) (aN A e 5) 544 := up2_eq
  refine ⟨?_, b2, b3, fun s hs => ?_, b5⟩
  · rw [n5]
    by_cases hz : aN A e 5 < runN (aH A e 0) (aN A e 5) 544
    · have := b2 _ (runN_had _ _ _ hz)
      omega
    · omega
  · have : aN (m_late A e) e (16 + s) = aN A e (16 + s) := up2_ne2 (by omega)
    rw [this]
    exact b4 s hs
theorem bRd_late {A : MA} {e : Nat} (hb : bRd A) : bRd (m_late A e) := by
  intro e' he' s hs
  have : aN (m_late A e) e' (23 + s) = aN A e' (23 + s) := up2_ne2 (by omega)
  rw [this]
  exact hb e' he' s hs
theorem T_data {A : MA} {T : St} (h : RT A T) (hbp : bP A) {e p n : Nat} (he : e < 2) (hp : p < 2) (hn : n < 5000) {w : WC} (hl : aN A e 5 ≤ 511) (hb : ¬ m_drop A e n = true → bW (m_put A e n w) e ∧ bRd (m_put A e n w) ∧ cHd (m_put A e n w) e < 544) {t : Int32} (hq : ∀ j, j < 8 → T 1007 0 j = (pdat t n w).1 j) (hbm : bP (m_get A e n w)) (hlm : aN (m_get A e n w) e 5 ≤ 527) : sat (f_M_data 0 (I e) (I p) T) (fun T' => RT (m_data A e p n w) T') := by
  have a2 : T cM_arrived 0 2 = I n := hq 2 (by decide)
  have fin : ∀ T', RT (m_get A e n w) T' → sat (f_M_data_216 0 (I e) (I p) T') (fun T' => RT (m_data A e p n w) T') := fun T' h' => T_216 h' hbm he hp hlm
  have k59 : m_drop A e n = true → sat (f_M_data_59 0 (I e) (I p) (I n) T) (fun T' => RT (m_data A e p n w) T') := by
    intro hd
    unfold f_M_data_59 f_M_data_64
    rw [if_neg (by decide)]
    refine fin T ?_
    unfold m_get
    rw [if_pos hd]
    exact h
  have k63 : ¬ m_drop A e n = true → n ≤ aN A e 5 + 16 → sat (f_M_data_63 0 (I e) (I p) (I n) T) (fun T' => RT (m_data A e p n w) T') := by
    intro hd hn2
    obtain ⟨c1, c2, c3⟩ := hb hd
    have h1 := RT_put h (n := n) (w := w) he (by omega)
    unfold f_M_data_63 f_M_data_64
    rw [if_pos rfl, show (544 : Int32) * I e + I n = I (544 * e + n) by rw [show (544 : Int32) = I 544 from rfl, I_mul, I_add], inbT (show 544 * e + n < 1088 by omega) (by decide), inbT he (by decide), I_ix (by omega), I_ix (by omega)]
    rw [if_pos rfl, if_pos rfl, if_pos (show inb (3 : Int32) 8 = true by decide), if_pos rfl, if_pos (show inb (4 : Int32) 8 = true by decide), if_pos rfl, if_pos (show inb (5 : Int32) 8 = true by decide), if_pos rfl, if_pos (show inb (6 : Int32) 8 = true by decide), if_pos rfl, if_pos rfl, if_pos rfl]
    rw [show ix (3 : Int32) = 3 by decide, show ix (4 : Int32) = 4 by decide, show ix (5 : Int32) = 5 by decide, show ix (6 : Int32) = 6 by decide]
    have d3 : T cM_arrived 0 3 = w.1 := hq 3 (by decide)
    have d4 : T cM_arrived 0 4 = I w.2.1 := hq 4 (by decide)
    have d5 : T cM_arrived 0 5 = I w.2.2.1 := hq 5 (by decide)
    have d6 : T cM_arrived 0 6 = wfl w := hq 6 (by decide)
    rw [d3, d4, d5, d6, rt_kept h he]
    have hn5 : aN (m_put A e n w) e 5 = aN A e 5 := rfl
    refine T_late h1 he (by rw [hn5]; omega) c1.2.1 (fun T' h' => ?_)
    refine T_rdy h' he (bW_late c1) (bRd_late c2) c3 (fun T2 h2 => fin T2 ?_)
    unfold m_get
    rw [if_neg hd]
    exact h2
  unfold f_M_data
  rw [if_pos (by decide), show ix (2 : Int32) = 2 by decide, a2]
  by_cases h1 : n < 1
  · rw [if_pos (show I n < 1 from (I_lt (b := 1) (by omega) (by decide)).mpr h1)]
    exact k59 (decide_eq_true (Or.inl h1))
  · rw [if_neg (show ¬ I n < 1 from fun z => h1 ((I_lt (b := 1) (by omega) (by decide)).mp z)), T_has h he (by omega) hn, bdS]
    cases h2 : m_has A e n with
    | true =>
      rw [if_neg (by decide)]
      exact k59 (decide_eq_true (Or.inr (Or.inl h2)))
    | false =>
      rw [if_pos (by decide), inbT he (by decide), if_pos rfl, I_ix (by omega), rt_latest h he, show (16 : Int32) = I 16 from rfl, I_add]
      by_cases h3 : aN A e 5 + 16 < n
      · rw [if_pos ((I_lt (by omega) (by omega)).mpr h3)]
        exact k59 (decide_eq_true (Or.inr (Or.inr (Or.inl h3))))
      · rw [if_neg (fun z => h3 ((I_lt (by omega) (by omega)).mp z)), if_pos rfl, rt_kept h he, rt_room h]
        by_cases h4 : aI A e 10 < I (gN A 1)
        · rw [if_pos h4]
          refine k63 (fun z => ?_) (by omega)
          rcases of_decide_eq_true z with z | z | z | z
          · exact h1 z
          · rw [h2] at z; cases z
          · exact h3 z
          · exact z.1 h4
        · rw [if_neg h4, if_pos rfl, show (1 : Int32) = I 1 from rfl, I_add]
          by_cases h5 : n = aN A e 5 + 1
          · rw [if_pos (by rw [h5])]
            refine k63 (fun z => ?_) (by omega)
            rcases of_decide_eq_true z with z | z | z | z
            · exact h1 z
            · rw [h2] at z; cases z
            · exact h3 z
            · exact z.2 h5
          · rw [if_neg (fun z => h5 ((I_eq (by omega) (by omega)).mp z))]
            exact k59 (decide_eq_true (Or.inr (Or.inr (Or.inr ⟨h4, h5⟩))))
