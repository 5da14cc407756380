theorem T_addStep {A : MA} {T : St} (h : RT A T) {e s m k o : Nat} (he : e < 2) (hs : s < 3) (hk : k < m) (hm : m ≤ 4) (hl : aN A e 4 + 1 ≤ aN A e 3 + 24) (hg : aN A e 4 < 4000) {u v : Int32} {lo : Bool} (hu : lo = decide (u ≠ 0)) (ho : I o = if lo = true then 0 else T 1033 0 (3 * e + s)) (ho2 : o < 4000) : sat (f_M_send_64_b 0 (I e) (I s) u v (I m) (I k, T)) (Sum.elim (fun x => x.1 = I (k + 1) ∧ RT (m_addW A e (v + I k, s, o, Nat.beq k 0, Nat.beq (k + 1) m, lo)) x.2) (fun _ => False)) := by
  have hG : up3 T cM_given 0 e (I (aN A e 4 + 1)) cM_given 0 e = I (aN A e 4 + 1) := by rw [up3_at, if_pos rfl]
  have hg1 : ∀ f : Int32, f = wfl (v + I k, s, o, Nat.beq k 0, Nat.beq (k + 1) m, lo) → RT (m_addW A e (v + I k, s, o, Nat.beq k 0, Nat.beq (k + 1) m, lo)) (up3 (up3 (up3 (up3 (up3 (up3 (up3 (up3 T 1032 0 e (I (aN A e 4 + 1))) 1034 0 (32 * e + (aN A e 4 + 1) % 32) (I 1)) 1035 0 (32 * e + (aN A e 4 + 1) % 32) (v + I k)) 1036 0 (32 * e + (aN A e 4 + 1) % 32) (I s)) 1037 0 (32 * e + (aN A e 4 + 1) % 32) (I o)) 1038 0 (32 * e + (aN A e 4 + 1) % 32) f) 1039 0 (32 * e + (aN A e 4 + 1) % 32) (I 0)) 1040 0 (32 * e + (aN A e 4 + 1) % 32) (I 0)) := by
    intro f hf
    refine RT_addW h he hl (fun x h1 h2 => ?_) ?_ (fun x h1 h2 j hj => ?_) ⟨?_, ?_, ?_, ?_, ?_, ?_, ?_⟩
    · rw [up3_code (by omega), up3_code (by omega), up3_code (by omega), up3_code (by omega), up3_code (by omega), up3_code (by omega), up3_code (by omega), up3_code h1]
    · rw [up3_code (by decide), up3_code (by decide), up3_code (by decide), up3_code (by decide), up3_code (by decide), up3_code (by decide), up3_code (by decide)]
    · have k1 : ∀ (S : St) (y : Nat) (w : Int32), up3 S y 0 (32 * e + (aN A e 4 + 1) % 32) w x 0 j = S x 0 j := by
        intro S y w
        by_cases hy : x = y
        · subst hy
          rw [up3_at, if_neg hj]
        · rw [up3_code hy]
      rw [k1, k1, k1, k1, k1, k1, k1, up3_code (by omega)]
    · rw [up3_code (by decide), up3_code (by decide), up3_code (by decide), up3_code (by decide), up3_code (by decide), up3_code (by decide), up3_at, if_pos rfl]; rfl
    · rw [up3_code (by decide), up3_code (by decide), up3_code (by decide), up3_code (by decide), up3_code (by decide), up3_at, if_pos rfl]
    · rw [up3_code (by decide), up3_code (by decide), up3_code (by decide), up3_code (by decide), up3_at, if_pos rfl]
    · rw [up3_code (by decide), up3_code (by decide), up3_code (by decide), up3_at, if_pos rfl]
    · rw [up3_code (by decide), up3_code (by decide), up3_at, if_pos rfl]; exact hf
    · rw [up3_code (by decide), up3_at, if_pos rfl]
    · rw [up3_at, if_pos rfl]
  have hk0 : (I k = I 0) ↔ k = 0 := I_eq (by omega) (by decide)
  have hk1 : (I k = I (m - 1)) ↔ k = m - 1 := I_eq (by omega) (by omega)
  have fl : (if k = 0 then (I 1 : Int32) else I 0) + (if k = m - 1 then I 2 else I 0) + (if u = I 0 then I 0 else I 4) = wfl (v + I k, s, o, Nat.beq k 0, Nat.beq (k + 1) m, lo) := by
    unfold wfl fl3
    have a1 : Nat.beq k 0 = decide (k = 0) := by
      by_cases q : k = 0
      · subst q; rfl
      · rw [decide_eq_false q]
        cases k with
        | zero => exact absurd rfl q
        | succ k => rfl
    have a2 : Nat.beq (k + 1) m = decide (k = m - 1) := by
      by_cases q : k = m - 1
      · rw [decide_eq_true q]
        have : k + 1 = m := by omega
        rw [this]
        exact Nat.beq_refl m
      · rw [decide_eq_false q]
        cases hz : Nat.beq (k + 1) m with
        | false => rfl
        | true =>
          have := Nat.eq_of_beq_eq_true hz
          omega
    have a3 : lo = decide (¬ u = I 0) := hu
    dsimp only
    rw [a1, a2, a3]
    congr 1
    · congr 1
      · by_cases q : k = 0
        · rw [if_pos q, decide_eq_true q]; rfl
        · rw [if_neg q, decide_eq_false q]; rfl
      · by_cases q : k = m - 1
        · rw [if_pos q, decide_eq_true q]; rfl
        · rw [if_neg q, decide_eq_false q]; rfl
    · by_cases q : u = I 0
      · rw [if_pos q, decide_eq_false (fun z => z q)]; rfl
      · rw [if_neg q, decide_eq_true q]; rfl
  unfold f_M_send_64_b f_M_send_149 f_M_send_166 f_M_send_180 f_M_send_190
  simp (maxSteps := 1000000) (disch := omega) only [I_lit, I_lt, I_ix, inbT, if_true, rt_given h he, I_add, hG, I_mul, I_rem, I_sub, hk0, hk1]
  rw [if_pos hk]
  have hO : T cM_orders 0 (3 * e + s) = I o ∨ u ≠ I 0 := by
    by_cases q : u = I 0
    · left
      have : lo = false := by rw [hu]; exact decide_eq_false (fun z => z q)
      rw [this] at ho
      exact ho.symm
    · exact Or.inr q
  have hO2 : u ≠ I 0 → I 0 = I o := by
    intro q
    have : lo = true := by rw [hu]; exact decide_eq_true q
    rw [this] at ho
    exact ho.symm
  by_cases c1 : u = I 0
  · have hO := hO.elim id (fun z => absurd c1 z)
    simp only [c1, if_true, hO] at fl ⊢
    by_cases c2 : k = 0
    · by_cases c3 : k = m - 1
      · simp only [if_pos c2, if_pos c3] at fl ⊢
        exact .some ⟨rfl, hg1 _ fl⟩
      · simp only [if_pos c2, if_neg c3] at fl ⊢
        exact .some ⟨rfl, hg1 _ fl⟩
    · by_cases c3 : k = m - 1
      · simp only [if_neg c2, if_pos c3] at fl ⊢
        exact .some ⟨rfl, hg1 _ fl⟩
      · simp only [if_neg c2, if_neg c3] at fl ⊢
        exact .some ⟨rfl, hg1 _ fl⟩
  · have hO := hO2 c1
    have hz : o = 0 := ((I_eq (a := 0) (by decide) (by omega)).mp hO).symm
    subst hz
    simp only [if_neg c1] at fl ⊢
    by_cases c2 : k = 0
    · by_cases c3 : k = m - 1
      · simp only [if_pos c2, if_pos c3] at fl ⊢
        exact .some ⟨rfl, hg1 _ fl⟩
      · simp only [if_pos c2, if_neg c3] at fl ⊢
        exact .some ⟨rfl, hg1 _ fl⟩
    · by_cases c3 : k = m - 1
      · simp only [if_neg c2, if_pos c3] at fl ⊢
        exact .some ⟨rfl, hg1 _ fl⟩
      · simp only [if_neg c2, if_neg c3] at fl ⊢
        exact .some ⟨rfl, hg1 _ fl⟩
theorem m_addM_gone (A : MA) (e s o : Nat) (lo : Bool) (v : Int32) (m k : Nat) : aN (m_addM A e s o lo v m k) e 3 = aN A e 3 ∧ aN (m_addM A e s o lo v m k) e 4 = aN A e 4 + k := by
  rw [m_addM_N]
  exact ⟨up2_ne2 (by decide), up2_eq⟩
theorem m_addM_aP (A : MA) (e s o : Nat) (lo : Bool) (v : Int32) (m : Nat) : ∀ k, aP (m_addM A e s o lo v m k) = aP A
  | 0 => rfl
  | k + 1 => m_addM_aP A e s o lo v m k
theorem m_addM_gN (A : MA) (e s o : Nat) (lo : Bool) (v : Int32) (m : Nat) : ∀ k, gN (m_addM A e s o lo v m k) = gN A
  | 0 => rfl
  | k + 1 => m_addM_gN A e s o lo v m k
theorem m_addM_oP (A : MA) (e s o : Nat) (lo : Bool) (v : Int32) (m : Nat) (h5 : ∀ n, oPa A e n < 2) (h6 : ∀ n, oSk A e n ≤ 2) : ∀ k n, oPa (m_addM A e s o lo v m k) e n < 2 ∧ oSk (m_addM A e s o lo v m k) e n ≤ 2
  | 0, n => ⟨h5 n, h6 n⟩
  | k + 1, n => by
    have ih := m_addM_oP A e s o lo v m h5 h6 k n
    rw [m_addM]
    unfold m_addW
    show (up2 (aO (m_addM A e s o lo v m k)) e _ _ e n).2.2.1 < 2 ∧ (up2 (aO (m_addM A e s o lo v m k)) e _ _ e n).2.2.2 ≤ 2
    unfold up2
    split
    · exact ⟨(show 0 < 2 by decide), (show 0 ≤ 2 by decide)⟩
    · exact ih
theorem m_add_bO {A : MA} {e s m : Nat} {lo : Bool} {v : Int32} (hb : bO A e) (hs : s < 3) (hl : aN A e 4 - aN A e 3 + m ≤ 24) (hg : aN A e 4 + m < 4000) : bO (m_add A e s lo v m) e := by
  obtain ⟨b1, b2, b3, b4, b5, b6, b7, b8⟩ := hb
  have kk : ∀ o, bO (m_addM A e s o lo v m m) e := by
    intro o
    obtain ⟨g1, g2⟩ := m_addM_gone A e s o lo v m m
    have gn : ∀ i, i ≠ 4 → aN (m_addM A e s o lo v m m) e i = aN A e i := fun i hi => by rw [m_addM_N]; exact up2_ne2 hi
    refine ⟨by rw [gn 2 (by decide)]; exact b1, by rw [g1, g2]; omega, by rw [g1, g2]; omega, by rw [g2]; omega, fun n => (m_addM_oP A e s o lo v m b5 b6 m n).1, fun n => (m_addM_oP A e s o lo v m b5 b6 m n).2, fun p hp => ?_, by rw [m_addM_gN]; exact b8⟩
    rw [gn (7 + p) (by omega), gn (9 + p) (by omega)]
    exact b7 p hp
  unfold m_add
  cases lo with
  | true => exact kk 0
  | false =>
    obtain ⟨c1, c2, c3, c4, c5, c6, c7, c8⟩ := kk (aN A e (13 + s))
    have gn : ∀ i, i < 13 → aN (sN (m_addM A e s (aN A e (13 + s)) false v m m) e (13 + s) (aN A e (13 + s) + 1)) e i = aN (m_addM A e s (aN A e (13 + s)) false v m m) e i := fun i hi => up2_ne2 (by omega)
    refine ⟨by rw [gn 2 (by decide)]; exact c1, by rw [gn 3 (by decide), gn 4 (by decide)]; exact c2, by rw [gn 3 (by decide), gn 4 (by decide)]; exact c3, by rw [gn 4 (by decide)]; exact c4, c5, c6, fun p hp => ?_, c8⟩
    rw [gn (7 + p) (by omega), gn (9 + p) (by omega)]
    exact c7 p hp
theorem T_send {A : MA} {T : St} (h : RT A T) (hbp : bP A) {e s m : Nat} (he : e < 2) (hs : s < 3) (hm : 1 ≤ m) (hm2 : m ≤ 4) (hb : bO A e) (hg : aN A e 4 + m < 4000) (ho : aN A e (13 + s) < 4000) {u v : Int32} : sat (f_M_send 0 (I e) (I s) u v (I m) T) (fun x => x.1 = (if aI A e 0 ≠ 3 ∨ 24 < m_len A e + m then 0 else 1) ∧ RT (if aI A e 0 ≠ 3 ∨ 24 < m_len A e + m then A else m_send A e s (decide (u ≠ 0)) v m) x.2) := by
  obtain ⟨b1, b2, b3, b4, b5, b6, b7, b8⟩ := id hb
  unfold f_M_send f_M_send_59
  rw [if_neg (two_I he)]
  have n1 : ¬ I s < 0 := fun z => by
    have := (I_lt (b := 0) (by omega) (by decide)).mp z
    omega
  have n2 : ¬ (2 : Int32) < I s := fun z => by
    have := (I_lt (a := 2) (by decide) (by omega)).mp z
    omega
  have n3 : ¬ I m < 1 := fun z => by
    have := (I_lt (b := 1) (by omega) (by decide)).mp z
    omega
  have n4 : ¬ (4 : Int32) < I m := fun z => by
    have := (I_lt (a := 4) (by decide) (by omega)).mp z
    omega
  rw [if_neg n1, if_neg n2, if_neg n3, if_neg n4]
  rw [inbT he (by decide), if_pos rfl, I_ix (by omega), rt_state h he]
  by_cases h3 : aI A e 0 = 3
  · rw [if_pos h3, if_pos rfl, if_pos rfl, rt_given h he, rt_gone h he, I_sub b2, I_add]
    have hL : ((24 : Int32) < I (aN A e 4 - aN A e 3 + m)) ↔ 24 < m_len A e + m := I_lt (a := 24) (by decide) (by omega)
    by_cases h24 : 24 < m_len A e + m
    · rw [if_pos (hL.mpr h24)]
      refine .some ⟨?_, ?_⟩
      · rw [if_pos (Or.inr h24)]
      · rw [if_pos (Or.inr h24)]; exact h
    · rw [if_neg (fun z => h24 (hL.mp z))]
      have hc : ¬ (aI A e 0 ≠ 3 ∨ 24 < m_len A e + m) := fun z => z.elim (fun z => z h3) h24
      simp only [hc, if_false]
      unfold m_len at h24
      let o := if decide (u ≠ 0) = true then 0 else aN A e (13 + s)
      have hbq := m_add_bO (s := s) (m := m) (lo := decide (u ≠ 0)) (v := v) hb hs (by omega) hg
      have hbpq : bP (m_add A e s (decide (u ≠ 0)) v m) := by
        unfold m_add
        split
        · intro r hr
          show (aP (m_addM A e s 0 true v m m) r).length ≤ 8
          rw [m_addM_aP]
          exact hbp r hr
        · intro r hr
          show (aP (m_addM A e s _ false v m m) r).length ≤ 8
          rw [m_addM_aP]
          exact hbp r hr
      unfold f_M_send_64
      refine sat_upP (fun i x => x.1 = I i ∧ RT (m_addM A e s o (decide (u ≠ 0)) v m i) x.2) m (fun i x hi hx => ?_) (fun x hx => ?_) ⟨rfl, (show RT (m_addM A e s o (decide (u ≠ 0)) v m 0) T from h)⟩ (by omega)
      · obtain ⟨c, T1⟩ := x
        obtain ⟨rfl, h1⟩ := hx
        replace h1 : RT _ T1 := h1
        obtain ⟨g1, g2⟩ := m_addM_gone A e s o (decide (u ≠ 0)) v m i
        refine (T_addStep h1 (k := i) (m := m) (o := o) he hs hi hm2 (by rw [g1, g2]; omega) (by rw [g2]; omega) rfl ?_ ?_).imp (fun x hx => hx)
        · have : T1 1033 0 (3 * e + s) = I (aN A e (13 + s)) := by
            rw [rt_orders h1 he hs, m_addM_N, up2_ne2 (by omega)]
          rw [this]
          show I (if decide (u ≠ 0) = true then 0 else aN A e (13 + s)) = _
          split <;> rfl
        · show (if decide (u ≠ 0) = true then 0 else aN A e (13 + s)) < 4000
          split <;> omega
      · obtain ⟨c, T1⟩ := x
        obtain ⟨rfl, h1⟩ := hx
        replace h1 : RT _ T1 := h1
        have hO : T1 cM_orders 0 (3 * e + s) = I (aN A e (13 + s)) := by
          rw [rt_orders h1 he hs, m_addM_N, up2_ne2 (by omega)]
        have hO2 : aN (m_addM A e s o (decide (u ≠ 0)) v m m) e (13 + s) = aN A e (13 + s) := by rw [m_addM_N, up2_ne2 (by omega)]
        unfold f_M_send_64_b f_M_send_234
        simp (disch := omega) only [I_lit, I_lt, I_ix, inbT, if_true, I_add, I_mul, hO]
        rw [if_neg (by omega)]
        refine .exW ?_
        by_cases hu : u = 0
        · have e0 : decide (u ≠ 0) = false := decide_eq_false (fun z => z hu)
          rw [if_pos (show u = I 0 from hu)]
          have h2 : RT (m_add A e s (decide (u ≠ 0)) v m) (up3 T1 1033 0 (3 * e + s) (I (aN A e (13 + s) + 1))) := by
            have h3 : o = aN A e (13 + s) := by
              show (if decide (u ≠ 0) = true then 0 else aN A e (13 + s)) = _
              rw [e0]; rfl
            rw [h3] at h1
            rw [e0] at h1 ⊢
            exact rs_orders h1 hs rfl
          exact .bd (T_swm h2 hbpq he hbq) (fun T' h' => .some ⟨rfl, h'⟩)
        · have e0 : decide (u ≠ 0) = true := decide_eq_true hu
          rw [if_neg (show ¬ u = I 0 from hu), Nat.add_zero, up3_id hO]
          have h2 : RT (m_add A e s (decide (u ≠ 0)) v m) T1 := by
            have h3 : o = 0 := by
              show (if decide (u ≠ 0) = true then 0 else aN A e (13 + s)) = _
              rw [e0]; rfl
            rw [h3] at h1
            rw [e0] at h1 ⊢
            exact h1
          exact .bd (T_swm h2 hbpq he hbq) (fun T' h' => .some ⟨rfl, h'⟩)
  · rw [if_neg h3]
    refine .some ⟨?_, ?_⟩
    · rw [if_pos (Or.inl h3)]
    · rw [if_pos (Or.inl h3)]; exact h
