def cf (T : St) (b : Nat) : Nat → St
  | 0 => T
  | k + 1 => up3 (cf T b k) 1007 0 k (T 1006 0 (b + k))
theorem cf_code {T : St} {b y : Nat} (h : y ≠ 1007) : ∀ k, cf T b k y = T y
  | 0 => rfl
  | k + 1 => by rw [cf, up3_code h, cf_code h k]
theorem cf_at {T : St} {b j : Nat} : ∀ k, j < k → cf T b k 1007 0 j = T 1006 0 (b + j)
  | 0, h => by omega
  | k + 1, h => by
    rw [cf, up3_at]
    by_cases hc : j = k
    · rw [if_pos hc, hc]
    · rw [if_neg hc, cf_at k (by omega)]
def sf (T : St) (b : Nat) : Nat → St
  | 0 => T
  | k + 1 => up3 (sf T b k) 1006 0 (b + k) (T 1006 0 (b + 8 + k))
theorem sf_code {T : St} {b y : Nat} (h : y ≠ 1006) : ∀ k, sf T b k y = T y
  | 0 => rfl
  | k + 1 => by rw [sf, up3_code h, sf_code h k]
theorem sf_at {T : St} {b j : Nat} : ∀ k, sf T b k 1006 0 j = if b ≤ j ∧ j < b + k then T 1006 0 (j + 8) else T 1006 0 j
  | 0 => by rw [sf, if_neg (by omega)]
  | k + 1 => by
    rw [sf, up3_at, sf_at k]
    by_cases h : j = b + k
    · rw [if_pos h, if_pos (by omega)]
      congr 1
      omega
    · rw [if_neg h]
      by_cases h2 : b ≤ j ∧ j < b + k
      · rw [if_pos h2, if_pos (by omega)]
      · rw [if_neg h2, if_neg (by omega)]
theorem T_take {A : MA} {T : St} (h : RT A T) (hb : ∀ r, r < 4 → (aP A r).length ≤ 8) {r : Nat} (hr : r < 4) {q : Pkt} {l : List Pkt} (hq : aP A r = q :: l) : sat (f_M_take 0 (I r) T) (fun T' => RT (m_take A r) T' ∧ ∀ j, j < 8 → T' 1007 0 j = q.1 j) := by
  have hL : (aP A r).length = l.length + 1 := by rw [hq]; rfl
  have hl := hb r hr
  unfold f_M_take f_M_take_7
  simp only [I_lit, I_mul]
  refine sat_up (fun i => (I i, cf T (64 * r) i)) 8 (fun i hi => ?_) ?_ (by decide)
  · unfold f_M_take_7_b
    simp (disch := omega) only [I_lit, I_lt, I_add, inbT, I_ix]
    rw [if_pos (by omega)]
    simp only [if_true, cf]
    rw [cf_code (by decide)]
  · unfold f_M_take_7_b f_M_take_45
    simp (disch := omega) only [I_lit, I_lt, I_add, inbT, I_ix]
    rw [if_neg (by omega)]
    simp only [if_true]
    have hT1 : RT A (cf T (64 * r) 8) := RT_x h (fun x h1 h2 => cf_code h1 8)
    generalize hC : cf T (64 * r) 8 = T1 at hT1 ⊢
    have e1 : T1 cM_rows 0 r - I 1 = I l.length := by
      rw [rt_rows hT1 hr, hL, I_sub (by omega)]
      rfl
    rw [e1]
    generalize hD : up3 T1 cM_rows 0 r (I l.length) = T2
    have hr2 : T2 cM_rows 0 r = I l.length := by rw [← hD, up3_at, if_pos rfl]
    have hs : ∀ k, sf T2 (64 * r) k cM_rows 0 r = I l.length := fun k => by rw [sf_code (by decide)]; exact hr2
    refine .exW (sat_up (fun i => (I i, sf T2 (64 * r) i)) (8 * l.length) (fun i hi => ?_) ?_ (by omega))
    · unfold f_M_take_45_b
      simp (disch := omega) only [I_lit, I_lt, I_add, I_mul, inbT, I_ix, hs, if_true]
      rw [if_pos (by omega)]
      simp only [sf]
      rw [sf_at, if_neg (by omega)]
    · unfold f_M_take_45_b
      simp (disch := omega) only [I_lit, I_lt, I_add, I_mul, inbT, I_ix, hs, if_true]
      rw [if_neg (by omega)]
      refine .exW (.some ⟨?_, fun j hj => ?_⟩)
      · refine RT_P hT1 (fun x h1 h2 => by rw [sf_code h2, ← hD, up3_code h1]) (fun r' hr' => ?_)
        by_cases hc : r' = r
        · subst hc
          rw [up1_eq, hq]
          refine ⟨by rw [sf_code (by decide)]; exact hr2, fun i p hp j hj => ?_⟩
          have hi : i < l.length := (List.getElem?_eq_some_iff.mp hp).1
          rw [sf_at, if_pos (by omega), ← hD, up3_code (by decide), ← rt_pk hT1 hr (q := p) (i := i + 1) (by rw [hq]; exact hp) hj]
          congr 1
          omega
        · rw [up1_ne hc]
          refine ⟨by rw [sf_code (by decide), ← hD, up3_at, if_neg hc]; exact rt_rows hT1 hr', fun i p hp j hj => ?_⟩
          have hi : i < (aP A r').length := (List.getElem?_eq_some_iff.mp hp).1
          have := hb r' hr'
          rw [sf_at, if_neg (by omega), ← hD, up3_code (by decide)]
          exact rt_pk hT1 hr' hp hj
      · rw [sf_code (by decide), ← hD, up3_code (by decide), ← hC, cf_at 8 hj, ← rt_pk h hr (q := q) (i := 0) (by rw [hq]; rfl) hj]
        rfl
def df (T : St) (b c : Nat) : Nat → St
  | 0 => T
  | k + 1 => up3 (df T b c k) 1006 0 (b + c + k) (T 1006 0 (b + k))
theorem df_code {T : St} {b c y : Nat} (h : y ≠ 1006) : ∀ k, df T b c k y = T y
  | 0 => rfl
  | k + 1 => by rw [df, up3_code h, df_code h k]
theorem df_at {T : St} {b c j : Nat} (hc : 8 ≤ c) : ∀ k, k ≤ 8 → df T b c k 1006 0 j = if b + c ≤ j ∧ j < b + c + k then T 1006 0 (j - c) else T 1006 0 j
  | 0, _ => by rw [df, if_neg (by omega)]
  | k + 1, hk => by
    rw [df, up3_at, df_at hc k (by omega)]
    by_cases h : j = b + c + k
    · rw [if_pos h, if_pos (by omega)]
      congr 1
      omega
    · rw [if_neg h]
      by_cases h2 : b + c ≤ j ∧ j < b + c + k
      · rw [if_pos h2, if_pos (by omega)]
      · rw [if_neg h2, if_neg (by omega)]
theorem T_two {a : Int32} : f_M_isTwo a = if a = 0 ∨ a = 1 then 1 else 0 := by
  unfold f_M_isTwo
  by_cases h : a = 0
  · subst h; rfl
  · by_cases h1 : a = 1
    · subst h1; rfl
    · simp only [h, h1, if_false, or_self]
      try rfl
theorem T_alter {A : MA} {T : St} (h : RT A T) (hb : ∀ r, r < 4 → (aP A r).length ≤ 8) {e p : Nat} (he : e < 2) (hp : p < 2) {w : Int32} : sat (f_M_alter 0 (I e) (I p) w T) (fun x => x.1 = (if aP A (2 * e + p) = [] ∨ (w ≠ 0 ∧ (aP A (2 * e + p)).length = 8) then 0 else 1) ∧ RT (if aP A (2 * e + p) = [] ∨ (w ≠ 0 ∧ (aP A (2 * e + p)).length = 8) then A else if w = 0 then m_take A (2 * e + p) else m_dup A (2 * e + p)) x.2) := by
  have hr : 2 * e + p < 4 := by omega
  have hl := hb _ hr
  have t1 : f_M_isTwo (I e) ≠ 0 := by
    rw [T_two, if_pos (by have : e = 0 ∨ e = 1 := by omega
                          rcases this with rfl | rfl <;> decide)]
    decide
  have t2 : f_M_isTwo (I p) ≠ 0 := by
    rw [T_two, if_pos (by have : p = 0 ∨ p = 1 := by omega
                          rcases this with rfl | rfl <;> decide)]
    decide
  unfold f_M_alter
  rw [if_neg t1, if_neg t2]
  have hI0 : ∀ n, n ≤ 8 → (I n = 0 ↔ n = 0) := fun n hn => I_eq (b := 0) (by omega) (by decide)
  simp (disch := omega) only [I_lit, I_mul, I_add, I_ix, inbT, rt_rows h hr, I_eq, if_true]
  generalize hR : 2 * e + p = r at *
  by_cases h0 : aP A r = []
  · have h0' : (aP A r).length = 0 := by rw [h0]; rfl
    rw [if_pos h0', if_pos (Or.inl h0), if_pos (Or.inl h0)]
    exact .some ⟨rfl, h⟩
  · obtain ⟨q, l, hq⟩ : ∃ q l, aP A r = q :: l := by
      cases hx : aP A r with
      | nil => exact absurd hx h0
      | cons q l => exact ⟨q, l, rfl⟩
    have hL : (aP A r).length = l.length + 1 := by rw [hq]; rfl
    rw [if_neg (by omega)]
    by_cases hw : w = I 0
    · rw [if_pos hw, if_neg (fun z => z.elim h0 (fun z => z.1 hw)), if_neg (fun z => z.elim h0 (fun z => z.1 hw)), if_pos hw]
      unfold f_M_alter_51
      rw [if_pos (show w = 0 from hw)]
      exact .bd (T_take h hb hr hq) (fun T' h' => .some ⟨rfl, h'.1⟩)
    · rw [if_neg hw]
      by_cases h8 : (aP A r).length = 8
      · rw [if_pos h8, if_pos (Or.inr ⟨hw, h8⟩), if_pos (Or.inr ⟨hw, h8⟩)]
        exact .some ⟨rfl, h⟩
      · rw [if_neg h8, if_neg (fun z => z.elim h0 (fun z => h8 z.2)), if_neg (fun z => z.elim h0 (fun z => h8 z.2)), if_neg hw]
        unfold f_M_alter_51 f_M_alter_66
        rw [if_neg (show ¬ w = 0 from hw)]
        generalize hN : (aP A r).length = n at *
        have hs : ∀ k, df T (64 * r) (8 * n) k cM_rows 0 r = I n := fun k => by rw [df_code (by decide), rt_rows h hr, hN]
        refine sat_up (fun i => (I i, df T (64 * r) (8 * n) i)) 8 (fun i hi => ?_) ?_ (by decide)
        · unfold f_M_alter_66_b
          simp (disch := omega) only [I_lit, I_lt, I_add, I_mul, inbT, I_ix, hs, if_true]
          rw [if_pos (by omega), df_at (by omega) i (by omega), if_neg (by omega)]
          rfl
        · unfold f_M_alter_66_b
          simp (disch := omega) only [I_lit, I_lt, I_add, I_mul, inbT, I_ix, hs, if_true]
          rw [if_neg (by omega)]
          refine .exW (.some ⟨rfl, ?_⟩)
          dsimp only
          show RT (uP A (up1 (aP A) r (aP A r ++ (aP A r).take 1))) _
          rw [show (aP A r).take 1 = [q] by rw [hq]; rfl]
          refine RT_P h (fun x h1 h2 => by rw [up3_code h1, df_code h2]) (rtP_push h hr hb (by omega) ?_ (fun r' hr' => ?_) (fun j hj => ?_) (fun j hj => ?_))
          · rw [up3_at, if_pos rfl, hN]
          · rw [up3_at, if_neg hr', df_code (by decide)]
          · rw [hN] at hj
            rw [up3_code (by decide), df_at (by omega) 8 (by omega), if_neg (by omega)]
          · rw [hN, up3_code (by decide), df_at (by omega) 8 (by omega), if_pos (by omega), ← rt_pk h hr (q := q) (i := 0) (by rw [hq]; rfl) hj]
            congr 1
            omega
