def m_unh (A : MA) (e n k : Nat) : MA := uW (uH A (fun x j i => if x = e ∧ j = 1 ∧ n ≤ i ∧ i < n + k then false else aH A x j i)) (aW A)
theorem T_188 {A : MA} {T : St} (h : RT A T) {e n m : Nat} (he : e < 2) (hm : n + m ≤ 544) : sat (f_M_oneReady_188 0 (I (544 * e + n)) (I m) (0, T)) (fun x => x.1 = 1 ∧ RT (m_unh A e n m) x.2) := by
  unfold f_M_oneReady_188
  refine sat_upP (fun i x => x.1 = I i ∧ RT (m_unh A e n i) x.2) m (fun i x hi hx => ?_) (fun x hx => ?_) ⟨rfl, ?_⟩ (by omega)
  · obtain ⟨c, T1⟩ := x
    obtain ⟨rfl, h1⟩ := hx
    replace h1 : RT (m_unh A e n i) T1 := h1
    unfold f_M_oneReady_188_b
    simp (disch := omega) only [I_lit, I_ix, inbT, if_true, I_add, I_lt]
    rw [if_pos hi]
    refine .some ⟨rfl, ?_⟩
    show RT (uW (uH (m_unh A e n i) _) (aW A)) (up3 T1 1044 0 (544 * e + n + i) (I 0))
    refine RT_H h1 (fun x hx => up3_code (by omega)) (fun e' he' k hk => ?_)
    obtain ⟨q1, q2, q3⟩ := rt_h h1 he' hk
    have f0 : (if e' = e ∧ 0 = 1 ∧ n ≤ k ∧ k < n + (i + 1) then false else aH A e' 0 k) = aH (m_unh A e n i) e' 0 k := by
      show _ = if e' = e ∧ 0 = 1 ∧ n ≤ k ∧ k < n + i then false else aH A e' 0 k
      rw [if_neg (by omega), if_neg (by omega)]
    rw [f0, up3_code (by decide), up3_at]
    refine ⟨q1, ?_⟩
    by_cases hc : e' = e ∧ k = n + i
    · obtain ⟨rfl, rfl⟩ := hc
      rw [if_pos (by omega)]
      have f1 : (if e' = e' ∧ 1 = 1 ∧ n ≤ n + i ∧ n + i < n + (i + 1) then false else aH A e' 1 (n + i)) = false := if_pos (by omega)
      rw [f1]
      exact ⟨rfl, fun z => by cases z⟩
    · rw [if_neg (by omega)]
      have f1 : (if e' = e ∧ 1 = 1 ∧ n ≤ k ∧ k < n + (i + 1) then false else aH A e' 1 k) = aH (m_unh A e n i) e' 1 k := by
        show _ = if e' = e ∧ 1 = 1 ∧ n ≤ k ∧ k < n + i then false else aH A e' 1 k
        by_cases hd : e' = e ∧ 1 = 1 ∧ n ≤ k ∧ k < n + i
        · rw [if_pos hd, if_pos (by omega)]
        · rw [if_neg hd, if_neg (by omega)]
      rw [f1]
      refine ⟨q2, fun z => ?_⟩
      have := q3 z
      unfold wT at this ⊢
      rw [up3_code (by decide), up3_code (by decide), up3_code (by decide), up3_code (by decide)]
      exact this
  · obtain ⟨c, T1⟩ := x
    obtain ⟨rfl, h1⟩ := hx
    unfold f_M_oneReady_188_b
    simp (disch := omega) only [I_lit, I_lt]
    rw [if_neg (by omega)]
    exact .exW (.some ⟨rfl, h1⟩)
  · show RT (m_unh A e n 0) T
    have : (fun x j i => if x = e ∧ j = 1 ∧ n ≤ i ∧ i < n + 0 then false else aH A x j i) = aH A := by
      funext x j i
      rw [if_neg (by omega)]
    unfold m_unh
    rw [this]
    exact h
def cHd (A : MA) (e : Nat) : Nat := cntN (aH A e 1) 0 543
/-- what the reference needs to know of an inbox -/
def bW (A : MA) (e : Nat) : Prop := aN A e 5 ≤ 527 ∧ (∀ n, aH A e 0 n = true → n < 528) ∧ (∀ n, aH A e 1 n = true → n < 528 ∧ (aW A e n).2.1 < 3 ∧ (aW A e n).2.2.1 < 4000 ∧ 1 ≤ n) ∧ (∀ s, s < 3 → aN A e (16 + s) + cHd A e < 4000) ∧ (∀ q ∈ aR A e, q.1 < 3)
def bRd (A : MA) : Prop := ∀ e, e < 2 → ∀ s, s < 3 → aN A e (23 + s) + cHd A e ≤ 512
theorem m_whl_pos {A : MA} {e n : Nat} : ∀ k i, 0 < whlN A e n k i → i < whlN A e n k i ∧ ∀ j, i ≤ j → j < whlN A e n k i → aH A e 1 (n + j) = true
  | 0, i => fun h => by rw [whlN] at h; omega
  | k + 1, i => fun h => by
    rw [whlN] at h ⊢
    by_cases h1 : aH A e 1 (n + i) = true
    · rw [if_pos h1] at h ⊢
      by_cases h2 : (aW A e (n + i)).2.2.2.2.1 = true
      · rw [if_pos h2] at h ⊢
        exact ⟨by omega, fun j hj hj2 => by rw [show j = i by omega]; exact h1⟩
      · rw [if_neg h2] at h ⊢
        obtain ⟨q1, q2⟩ := m_whl_pos k (i + 1) h
        refine ⟨by omega, fun j hj hj2 => ?_⟩
        by_cases hz : j = i
        · rw [hz]; exact h1
        · exact q2 j (by omega) hj2
    · rw [if_neg h1] at h
      omega
theorem T_move {A : MA} {T : St} (h : RT A T) {e n : Nat} (he : e < 2) (hb : bW A e) (hr : bRd A) (hc : 0 < cHd A e) (hh : aH A e 1 n = true) (hm : n + m_whl A e n ≤ 544) : sat (f_M_oneReady_108 0 (I (544 * e + n)) (I (m_whl A e n)) (I (3 * e + (aW A e n).2.1)) (b01 (aW A e n).2.2.2.2.2) T) (fun x => x.1 = 1 ∧ RT (m_move A e n (m_whl A e n)) x.2) := by
  obtain ⟨b1, b2, b3, b4, b5⟩ := hb
  obtain ⟨hn, hs, ho, _⟩ := b3 n hh
  obtain ⟨w1, w2, w3, w4⟩ := (rt_h h he (show n < 544 by omega)).2.2 hh
  have hrd := hr e he (aW A e n).2.1 hs
  have hNx := rt_nextOrder h he hs
  have key : ∀ (v : Nat), sat (f_M_oneReady_126 0 (I (544 * e + n)) (I (m_whl A e n)) (I (3 * e + (aW A e n).2.1)) 0 (I (3 * e + (aW A e n).2.1)) (T cM_nextOrder 0 (ix (I (3 * e + (aW A e n).2.1)))) (I v) T) (fun x => x.1 = 1 ∧ RT (m_unh (sN (uR (sN A e (16 + (aW A e n).2.1) (aN A e (16 + (aW A e n).2.1) + v)) (up1 (aR A) e (aR A e ++ [((aW A e n).2.1, (aW A e n).1, m_whl A e n)]))) e (23 + (aW A e n).2.1) (aN A e (23 + (aW A e n).2.1) + 1)) e n (m_whl A e n)) x.2) := by
    intro v
    have h1 := rs_nextOrder h (e := e) hs (v := aN A e (16 + (aW A e n).2.1) + v) (w := I (aN A e (16 + (aW A e n).2.1) + v)) rfl
    have hfr : ∀ e', e' < 2 → ∀ s', s' < 3 → aN (sN A e (16 + (aW A e n).2.1) (aN A e (16 + (aW A e n).2.1) + v)) e' (23 + s') = aN A e' (23 + s') := fun e' _ s' _ => up2_ne2 (by omega)
    have h2 := RT_push h1 (e := e) (s := (aW A e n).2.1) (m := m_whl A e n) (v := (aW A e n).1) he hs (by rw [hfr e he _ hs]; omega) (fun e' he' s' hs' => by
      rw [hfr e' he' s' hs']
      have := hr e' he' s' hs'
      omega)
    rw [hfr e he _ hs] at h2
    unfold f_M_oneReady_126
    have hRd := rt_readies h he hs
    have hNx' : T cM_nextOrder 0 (3 * e + (aW A e n).2.1) = I (aN A e (16 + (aW A e n).2.1)) := hNx
    have hRd' : T cM_readies 0 (3 * e + (aW A e n).2.1) = I (aN A e (23 + (aW A e n).2.1)) := hRd
    have w1' : T cM_hisValue 0 (544 * e + n) = (aW A e n).1 := w1
    simp (disch := omega) only [I_lit, I_ix, inbT, if_true, I_add, I_mul, hNx', hRd', w1']
    exact T_188 h2 he hm
  unfold f_M_oneReady_108 m_move
  rw [inbT (show 3 * e + (aW A e n).2.1 < 6 by omega) (by decide), if_pos rfl]
  dsimp only
  cases hl : (aW A e n).2.2.2.2.2 with
  | false =>
    rw [if_pos (by decide), if_neg (by decide)]
    exact key 1
  | true =>
    rw [if_neg (by decide), if_pos rfl]
    refine (key 0).imp (fun x hx => ⟨hx.1, ?_⟩)
    have := hx.2
    rw [Nat.add_zero, sN_same] at this
    exact this
def rdyR (A : MA) (e : Nat) (x : Int32 × St) : Prop := match m_rdy1 A e with
  | none => x.1 = 0 ∧ RT A x.2
  | some A' => x.1 = 1 ∧ RT A' x.2
theorem T_one {A : MA} {T : St} (h : RT A T) {e : Nat} (he : e < 2) (hb : bW A e) (hr : bRd A) (hcn : ∀ n, aH A e 1 n = true → 0 < cHd A e) : sat (f_M_oneReady 0 (I e) T) (rdyR A e) := by
  obtain ⟨b1, b2, b3, b4, b5⟩ := id hb
  unfold f_M_oneReady f_M_oneReady_2
  refine sat_iter (fun j x => ∃ a, x = I (a + 1) ∧ a + j = aN A e 5 + 16 ∧ fstN (m_cand A e) a j = fstN (m_cand A e) 0 (aN A e 5 + 16)) (P := rdyR A e) ?_ (i := aN A e 5 + 16) (by omega) ⟨0, rfl, by omega, rfl⟩
  rintro j x ⟨a, rfl, hj, hf⟩
  unfold f_M_oneReady_2_b
  have e1 : (544 : Int32) * I e + I (a + 1) = I (544 * e + (a + 1)) := by rw [show (544 : Int32) = I 544 from rfl, I_mul, I_add]
  rw [inbT he (by decide), if_pos rfl, I_ix (by omega), rt_latest h he, show (16 : Int32) = I 16 from rfl, I_add, e1]
  cases j with
  | zero =>
    rw [if_pos ((I_lt (by omega) (by omega)).mpr (by omega))]
    rw [fstN] at hf
    refine .exW (.some ?_)
    have : m_rdy1 A e = none := if_neg (by omega)
    unfold rdyR
    rw [this]
    exact ⟨rfl, h⟩
  | succ j =>
    obtain ⟨q1, q2, q3⟩ := rt_h h he (show a + 1 < 544 by omega)
    rw [if_neg (fun z => by have := (I_lt (by omega) (by omega)).mp z; omega), inbT (show 544 * e + (a + 1) < 1088 by omega) (by decide), if_pos rfl, I_ix (by omega), q2, b01_nz, if_pos rfl]
    rw [fstN] at hf
    have next : m_cand A e (a + 1) = false → sat (f_M_oneReady_213 0 (I e) (I (a + 1)) T) (Sum.elim (fun s' => ∃ j', j' < j + 1 ∧ ∃ a, s' = I (a + 1) ∧ a + j' = aN A e 5 + 16 ∧ fstN (m_cand A e) a j' = fstN (m_cand A e) 0 (aN A e 5 + 16)) (rdyR A e)) := by
      intro hz
      rw [if_neg (by rw [hz]; decide)] at hf
      exact .some ⟨j, by omega, a + 1, I_add (a + 1) 1, by omega, hf⟩
    cases hh : aH A e 1 (a + 1) with
    | false =>
      rw [if_pos (by decide)]
      exact next (by unfold m_cand; rw [hh]; rfl)
    | true =>
      obtain ⟨w1, w2, w3, w4⟩ := q3 hh
      obtain ⟨_, hs, ho, _⟩ := b3 (a + 1) hh
      have hnx := b4 _ hs
      have go : m_cand A e (a + 1) = true → sat (f_M_oneReady_108 0 (I (544 * e + (a + 1))) (I (m_whl A e (a + 1))) (I (3 * e + (aW A e (a + 1)).2.1)) (b01 (aW A e (a + 1)).2.2.2.2.2) T) (rdyR A e) := by
        intro hz
        rw [if_pos hz] at hf
        have hw : m_whl A e (a + 1) ≤ aN A e 5 + 17 - (a + 1) := by
          have := whlN_le A e (a + 1) (aN A e 5 + 17 - (a + 1)) 0
          unfold m_whl
          omega
        have : m_rdy1 A e = some (m_move A e (a + 1) (m_whl A e (a + 1))) := by
          unfold m_rdy1
          rw [← hf, if_pos (by omega)]
        unfold rdyR
        rw [this]
        exact T_move h he hb hr (hcn _ hh) hh (by omega)
      rw [if_neg (by decide), w4]
      cases hfi : (aW A e (a + 1)).2.2.2.1 with
      | false =>
        rw [if_neg (fun z => by rw [(wfl_1 _).mp z] at hfi; cases hfi)]
        exact next (by unfold m_cand; rw [hh, hfi]; rfl)
      | true =>
        rw [if_pos ((wfl_1 _).mpr hfi)]
        refine .bd (T_whl h he b1 (by omega)) (fun r hr' => ?_)
        subst hr'
        rw [if_pos rfl, if_pos rfl, w2, show (3 : Int32) * I e + I (aW A e (a + 1)).2.1 = I (3 * e + (aW A e (a + 1)).2.1) by rw [show (3 : Int32) = I 3 from rfl, I_mul, I_add]]
        have hwb : m_whl A e (a + 1) ≤ 544 := by
          have := whlN_le A e (a + 1) (aN A e 5 + 17 - (a + 1)) 0
          unfold m_whl
          omega
        have k80 : sat (f_M_oneReady_80 0 (I e) (I (a + 1)) (I (544 * e + (a + 1))) (I (m_whl A e (a + 1))) (I (3 * e + (aW A e (a + 1)).2.1)) (b01 (aW A e (a + 1)).2.2.2.2.2) T) (Sum.elim (fun s' => ∃ j', j' < j + 1 ∧ ∃ a, s' = I (a + 1) ∧ a + j' = aN A e 5 + 16 ∧ fstN (m_cand A e) a j' = fstN (m_cand A e) 0 (aN A e 5 + 16)) (rdyR A e)) := by
          unfold f_M_oneReady_80
          by_cases hw : 0 < m_whl A e (a + 1)
          · rw [if_pos (show (0 : Int32) < I (m_whl A e (a + 1)) from (I_lt (a := 0) (by decide) (by omega)).mpr hw)]
            cases hlo : (aW A e (a + 1)).2.2.2.2.2 with
            | false =>
              rw [if_pos (by decide), inbT (show 544 * e + (a + 1) < 1088 by omega) (by decide), if_pos rfl, inbT (show 3 * e + (aW A e (a + 1)).2.1 < 6 by omega) (by decide), if_pos rfl, I_ix (by omega), I_ix (by omega), w3, rt_nextOrder h he hs]
              by_cases hO : (aW A e (a + 1)).2.2.1 = aN A e (16 + (aW A e (a + 1)).2.1)
              · rw [if_pos (by rw [hO])]
                rw [← hlo]
                refine .exW (go ?_)
                unfold m_cand
                rw [hh, hfi, decide_eq_true hw, hO, Nat.beq_refl, Bool.or_true]
                rfl
              · rw [if_neg (fun z => hO ((I_eq (by omega) (by omega)).mp z))]
                refine next ?_
                unfold m_cand
                have : Nat.beq (aW A e (a + 1)).2.2.1 (aN A e (16 + (aW A e (a + 1)).2.1)) = false := by
                  cases hz : Nat.beq (aW A e (a + 1)).2.2.1 (aN A e (16 + (aW A e (a + 1)).2.1)) with
                  | false => rfl
                  | true => exact absurd (Nat.eq_of_beq_eq_true hz) hO
                rw [hlo, this, Bool.or_self, Bool.and_false, Bool.and_false]
            | true =>
              rw [if_neg (by decide), ← hlo]
              refine .exW (go ?_)
              unfold m_cand
              rw [hh, hfi, decide_eq_true hw, hlo]
              rfl
          · rw [if_neg (show ¬ (0 : Int32) < I (m_whl A e (a + 1)) from fun z => hw ((I_lt (a := 0) (by decide) (by omega)).mp z))]
            refine next ?_
            unfold m_cand
            rw [decide_eq_false hw, Bool.false_and, Bool.and_false]
        cases hlo : (aW A e (a + 1)).2.2.2.2.2 with
        | false =>
          rw [if_pos ((wfl_4 _).mpr hlo)]
          rw [hlo] at k80
          exact k80
        | true =>
          rw [if_neg (fun z => by rw [(wfl_4 _).mp z] at hlo; cases hlo)]
          rw [hlo] at k80
          exact k80
