theorem RT_oW {A : MA} {T T' : St} (h : RT A T) {e n : Nat} (he : e < 2) (h1 : aN A e 3 < n) (h2 : n ≤ aN A e 4) (hl : aN A e 4 ≤ aN A e 3 + 24) {o : OW} (c : ∀ x, (x < 1034 ∨ 1040 < x) → T' x = T x) (c2 : ∀ x, 1034 ≤ x → x ≤ 1040 → ∀ j, j ≠ 32 * e + n % 32 → T' x 0 j = T x 0 j) (ho : oT o T' (32 * e + n % 32)) : RT (uO A (up2 (aO A) e n o)) T' := by
  refine RT_O h c (fun e' he' n' h3 h4 => ?_)
  by_cases hc : e' = e ∧ n' = n
  · obtain ⟨rfl, rfl⟩ := hc
    rw [up2_eq]
    exact ho
  · have hu : up2 (aO A) e n o e' n' = aO A e' n' := if_neg hc
    rw [hu]
    have hj : 32 * e' + n' % 32 ≠ 32 * e + n % 32 := by
      intro z
      have : e' = e := by omega
      subst this
      have : n' % 32 = n % 32 := by omega
      have : n' ≠ n := fun q => hc ⟨rfl, q⟩
      omega
    obtain ⟨o1, o2, o3, o4, o5, o6, o7⟩ := rt_o h he' h3 h4
    exact ⟨by rw [c2 _ (by decide) (by decide) _ hj]; exact o1, by rw [c2 _ (by decide) (by decide) _ hj]; exact o2, by rw [c2 _ (by decide) (by decide) _ hj]; exact o3, by rw [c2 _ (by decide) (by decide) _ hj]; exact o4, by rw [c2 _ (by decide) (by decide) _ hj]; exact o5, by rw [c2 _ (by decide) (by decide) _ hj]; exact o6, by rw [c2 _ (by decide) (by decide) _ hj]; exact o7⟩
theorem fstN_gt (f : Nat → Bool) : ∀ k a, a < fstN f a k
  | 0, a => Nat.lt_succ_self a
  | k + 1, a => by
    rw [fstN]
    split
    · omega
    · have := fstN_gt f k (a + 1)
      omega
theorem fstN_le (f : Nat → Bool) : ∀ k a, fstN f a k ≤ a + k + 1
  | 0, a => Nat.le_refl _
  | k + 1, a => by
    rw [fstN]
    split
    · omega
    · have := fstN_le f k (a + 1)
      omega
theorem fstN_is (f : Nat → Bool) : ∀ k a, fstN f a k ≤ a + k → f (fstN f a k) = true
  | 0, a => fun h => by rw [fstN] at h; omega
  | k + 1, a => fun h => by
    rw [fstN] at h ⊢
    split
    · assumption
    · rename_i hc
      rw [if_neg hc] at h
      exact fstN_is f k (a + 1) (by omega)
theorem T_swm17 {A : MA} {T : St} (h : RT A T) {e : Nat} (he : e < 2) (hb : bO A e) {l2 : Int32} {P : (Int32 × St) ⊕ St → Prop} (hP : sat (f_M_sendWhatMay_69 0 (I e) l2 (I (m_fst A e)) T) P) : sat (f_M_sendWhatMay_17 0 (I e) l2 T (I (aN A e 3 + 1))) P := by
  obtain ⟨b1, b2, b3, b4, b5, b6, b7, b8⟩ := hb
  unfold f_M_sendWhatMay_17
  refine sat_iter (fun j x => ∃ a, x = I (a + 1) ∧ aN A e 3 ≤ a ∧ a + j = aN A e 4 ∧ fstN (isTS A e) a j = m_fst A e) (P := P) ?_ (i := m_len A e) (by unfold m_len; omega) ⟨aN A e 3, rfl, Nat.le_refl _, by unfold m_len; omega, rfl⟩
  rintro j x ⟨a, rfl, ha, hj, hf⟩
  unfold f_M_sendWhatMay_17_b
  cases j with
  | zero =>
    simp (disch := omega) only [I_lit, I_ix, inbT, if_true, rt_given h he, I_lt]
    rw [if_pos (by omega)]
    rw [fstN] at hf
    rw [hf]
    exact .exW hP
  | succ j =>
    obtain ⟨o1, o2, o3, o4, o5, o6, o7⟩ := rt_o h he (n := a + 1) (by omega) (by omega)
    simp (disch := omega) only [I_lit, I_ix, inbT, if_true, rt_given h he, I_lt, I_mul, I_add, I_rem, o1]
    rw [if_neg (by omega)]
    rw [fstN] at hf
    by_cases h1 : oSt A e (a + 1) = I 1
    · rw [if_pos h1]
      have : isTS A e (a + 1) = true := by
        unfold isTS
        rw [decide_eq_true (show oSt A e (a + 1) = 1 from h1)]
        rfl
      rw [if_pos this] at hf
      rw [hf]
      exact .exW hP
    · rw [if_neg h1]
      by_cases h3 : oSt A e (a + 1) = I 3
      · rw [if_pos h3]
        have : isTS A e (a + 1) = true := by
          unfold isTS
          rw [decide_eq_true (show oSt A e (a + 1) = 3 from h3), Bool.or_true]
        rw [if_pos this] at hf
        rw [hf]
        exact .exW hP
      · rw [if_neg h3]
        have : ¬ isTS A e (a + 1) = true := by
          unfold isTS
          rw [decide_eq_false (show ¬ oSt A e (a + 1) = 1 from h1), decide_eq_false (show ¬ oSt A e (a + 1) = 3 from h3)]
          exact Bool.false_ne_true
        rw [if_neg this] at hf
        exact .some ⟨j, by omega, a + 1, rfl, by omega, by omega, hf⟩
theorem T_swm295 {A : MA} {T : St} (h : RT A T) {e n p : Nat} (he : e < 2) (hp : p < 2) (h1 : aN A e 3 < n) (h2 : n ≤ aN A e 4) (hl : aN A e 4 ≤ aN A e 3 + 24) {l2 : Int32} : sat (f_M_sendWhatMay_295 0 (I e) l2 (I (32 * e + n % 32)) (I p) T) (Sum.elim (fun x => x.1 = l2 + 1 ∧ RT (m_timer (uO A (up2 (aO A) e n (oWd A e n, 2, p, 0))) e p) x.2) (fun _ => False)) := by
  unfold f_M_sendWhatMay_295 f_M_sendWhatMay_373
  obtain ⟨o1, o2, o3, o4, o5, o6, o7⟩ := rt_o h he h1 h2
  have h3 : RT (uO A (up2 (aO A) e n (oWd A e n, 2, p, 0))) (up3 (up3 (up3 T 1034 0 (32 * e + n % 32) 2) 1039 0 (32 * e + n % 32) (I p)) 1040 0 (32 * e + n % 32) 0) := by
    refine RT_oW h he h1 h2 hl (fun x hx => by rw [up3_code (by omega), up3_code (by omega), up3_code (by omega)]) (fun x hx hy j hj => ?_) ⟨?_, ?_, ?_, ?_, ?_, ?_, ?_⟩
    · by_cases x1 : x = 1034
      · subst x1
        rw [up3_code (by decide), up3_code (by decide), up3_at, if_neg hj]
      · by_cases x2 : x = 1039
        · subst x2
          rw [up3_code (by decide), up3_at, if_neg hj, up3_code (by decide)]
        · by_cases x3 : x = 1040
          · subst x3
            rw [up3_at, if_neg hj, up3_code (by decide), up3_code (by decide)]
          · rw [up3_code x3, up3_code x2, up3_code x1]
    · rw [up3_code (by decide), up3_code (by decide), up3_at, if_pos rfl]
    · rw [up3_code (by decide), up3_code (by decide), up3_code (by decide)]; exact o2
    · rw [up3_code (by decide), up3_code (by decide), up3_code (by decide)]; exact o3
    · rw [up3_code (by decide), up3_code (by decide), up3_code (by decide)]; exact o4
    · rw [up3_code (by decide), up3_code (by decide), up3_code (by decide)]; exact o5
    · rw [up3_code (by decide), up3_at, if_pos rfl]
    · rw [up3_at, if_pos rfl]; rfl
  have r1 := rt_runs h he hp
  simp (disch := omega) only [I_lit, I_ix, inbT, if_true, I_mul, I_add, r1, b01_nz]
  unfold m_timer
  have hB : aB (uO A (up2 (aO A) e n (oWd A e n, 2, p, 0))) e (2 + p) = aB A e (2 + p) := rfl
  rw [hB]
  cases hr : aB A e (2 + p) with
  | true =>
    rw [if_neg (by decide), if_pos rfl]
    exact .some ⟨rfl, h3⟩
  | false =>
    rw [if_pos (by decide), if_neg (by decide), rt_now h, rt_wait h he hp, I_add]
    exact .some ⟨rfl, rs_timer (rs_runs h3 hp rfl) hp rfl⟩
