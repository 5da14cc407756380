/-! The inbox of the reference. -/
theorem fl3_1 (f l o : Bool) : (fl3 f l o &&& 1 = 1) ↔ f = true := by
  cases f <;> cases l <;> cases o <;> decide
theorem wfl_1 (w : WC) : (wfl w &&& 1 = 1) ↔ w.2.2.2.1 = true := by
  exact fl3_1 _ _ _
theorem fl3_2 (f l o : Bool) : (fl3 f l o &&& 2 = 0) ↔ l = false := by
  cases f <;> cases l <;> cases o <;> decide
theorem wfl_2 (w : WC) : (wfl w &&& 2 = 0) ↔ w.2.2.2.2.1 = false := by
  exact fl3_2 _ _ _
theorem fl3_4 (f l o : Bool) : (fl3 f l o &&& 4 = 0) ↔ o = false := by
  cases f <;> cases l <;> cases o <;> decide
theorem wfl_4 (w : WC) : (wfl w &&& 4 = 0) ↔ w.2.2.2.2.2 = false := by
  exact fl3_4 _ _ _
theorem T_has {A : MA} {T : St} (h : RT A T) {e n : Nat} (he : e < 2) (hl : aN A e 5 ≤ 527) (hn : n < 5000) : f_M_has 0 (I e) (I n) T = some (b01 (m_has A e n)) := by
  unfold f_M_has f_M_has_42 f_M_has_38 m_has
  rw [inbT he (by decide), if_pos rfl, I_ix (by omega), rt_latest h he]
  by_cases h1 : aN A e 5 < n
  · rw [if_pos ((I_lt (by omega) (by omega)).mpr h1), if_pos rfl, decide_eq_false (by omega), show (16 : Int32) = I 16 from rfl, I_add]
    by_cases h2 : aN A e 5 + 16 < n
    · rw [if_pos ((I_lt (by omega) (by omega)).mpr h2), decide_eq_false (by omega)]
      rfl
    · rw [if_neg (fun z => h2 ((I_lt (by omega) (by omega)).mp z)), decide_eq_true (by omega), show (544 : Int32) * I e + I n = I (544 * e + n) by rw [show (544 : Int32) = I 544 from rfl, I_mul, I_add], inbT (show 544 * e + n < 1088 by omega) (by decide), if_pos rfl, I_ix (by omega), (rt_h h he (show n < 544 by omega)).1, b01_nz]
      cases aH A e 0 n <;> rfl
  · rw [if_neg (fun z => h1 ((I_lt (by omega) (by omega)).mp z)), decide_eq_true (by omega)]
    rfl
theorem whlN_le (A : MA) (e n : Nat) : ∀ k i, whlN A e n k i ≤ i + k
  | 0, i => Nat.zero_le _
  | k + 1, i => by
    rw [whlN]
    split
    · split
      · omega
      · have := whlN_le A e n k (i + 1)
        omega
    · omega
theorem T_whl {A : MA} {T : St} (h : RT A T) {e n : Nat} (he : e < 2) (hl : aN A e 5 ≤ 527) (hn : n ≤ aN A e 5 + 16) : sat (f_M_wholeTo 0 (I e) (I n) T) (fun r => r = I (m_whl A e n)) := by
  unfold f_M_wholeTo f_M_wholeTo_2
  refine sat_iter (fun j x => ∃ i, x = I i ∧ n + i + j = aN A e 5 + 17 ∧ whlN A e n j i = m_whl A e n) (P := fun r => r = I (m_whl A e n)) ?_ (i := aN A e 5 + 17 - n) (by omega) ⟨0, rfl, by omega, rfl⟩
  rintro j x ⟨i, rfl, hj, hw⟩
  unfold f_M_wholeTo_2_b
  have e1 : (544 : Int32) * I e + I n + I i = I (544 * e + (n + i)) := by rw [show (544 : Int32) = I 544 from rfl, I_mul, I_add, I_add, Nat.add_assoc]
  rw [inbT he (by decide), if_pos rfl, I_ix (by omega), rt_latest h he, show (16 : Int32) = I 16 from rfl, I_add, I_add n i, e1]
  cases j with
  | zero =>
    rw [if_pos ((I_lt (by omega) (by omega)).mpr (by omega))]
    rw [whlN] at hw
    exact .exW (.some (by rw [← hw]; rfl))
  | succ j =>
    obtain ⟨q1, q2, q3⟩ := rt_h h he (show n + i < 544 by omega)
    rw [if_neg (fun z => by have := (I_lt (by omega) (by omega)).mp z; omega), inbT (show 544 * e + (n + i) < 1088 by omega) (by decide), if_pos rfl, I_ix (by omega), q2, b01_nz, if_pos rfl]
    rw [whlN] at hw
    cases hh : aH A e 1 (n + i) with
    | false =>
      rw [if_pos (by decide)]
      rw [if_neg (by rw [hh]; decide)] at hw
      exact .exW (.some (by rw [← hw]; rfl))
    | true =>
      rw [if_neg (by decide), (q3 hh).2.2.2]
      rw [if_pos hh] at hw
      cases hf : (aW A e (n + i)).2.2.2.2.1 with
      | false =>
        rw [if_pos ((wfl_2 _).mpr hf)]
        rw [if_neg (by rw [hf]; decide)] at hw
        exact .some ⟨j, by omega, i + 1, I_add i 1, by omega, hw⟩
      | true =>
        rw [if_neg (fun z => by rw [(wfl_2 _).mp z] at hf; cases hf)]
        rw [if_pos hf] at hw
        exact .exW (.some (by rw [← hw]; exact I_add i 1))
theorem RT_push {A : MA} {T : St} (h : RT A T) {e s m : Nat} (he : e < 2) (hs : s < 3) (hr : aN A e (23 + s) < 512) (hfr : ∀ e', e' < 2 → ∀ s', s' < 3 → aN A e' (23 + s') ≤ 512) {v : Int32} : RT (sN (uR A (up1 (aR A) e (aR A e ++ [(s, v, m)]))) e (23 + s) (aN A e (23 + s) + 1)) (up3 (up3 (up3 T 1053 0 (512 * (3 * e + s) + aN A e (23 + s)) v) 1054 0 (512 * (3 * e + s) + aN A e (23 + s)) (I m)) 1051 0 (3 * e + s) (I (aN A e (23 + s) + 1))) := by
  obtain ⟨⟨h1, h2, h3⟩, r1, r2, r3, r4, r5, r6⟩ := h
  have q1 : ((1051, 3, 23) : Nat × Nat × Nat) ∈ tN := by decide
  have cc : ∀ x, x ≠ 1051 → x ≠ 1053 → x ≠ 1054 → up3 (up3 (up3 T 1053 0 (512 * (3 * e + s) + aN A e (23 + s)) v) 1054 0 (512 * (3 * e + s) + aN A e (23 + s)) (I m)) 1051 0 (3 * e + s) (I (aN A e (23 + s) + 1)) x = T x := fun x a b c => by rw [up3_code a, up3_code c, up3_code b]
  have cI : ∀ q ∈ tI, q.1 ≠ 1051 ∧ q.1 ≠ 1053 ∧ q.1 ≠ 1054 := by decide
  have cB : ∀ q ∈ tB, q.1 ≠ 1051 ∧ q.1 ≠ 1053 ∧ q.1 ≠ 1054 := by decide
  have cN : ∀ q ∈ tN, q.1 ≠ 1053 ∧ q.1 ≠ 1054 := by decide
  refine ⟨⟨famT_code h1 (fun q hq => cc _ (cI q hq).1 (cI q hq).2.1 (cI q hq).2.2), ?_, famT_code h3 (fun q hq => cc _ (cB q hq).1 (cB q hq).2.1 (cB q hq).2.2)⟩, ?_⟩
  · show famT tN (fun x i => I (up2 (aN A) e (23 + s) (aN A e (23 + s) + 1) x i)) _
    rw [up2_I]
    exact famT_set tN_ok (famT_code h2 (fun q hq => by rw [up3_code (cN q hq).2, up3_code (cN q hq).1])) q1 hs
  · refine ⟨rtG_code r1 (cc _ (by decide) (by decide) (by decide)) (cc _ (by decide) (by decide) (by decide)) (cc _ (by decide) (by decide) (by decide)) (cc _ (by decide) (by decide) (by decide)) (cc _ (by decide) (by decide) (by decide)), rtT_code r2 (cc _ (by decide) (by decide) (by decide)) (cc _ (by decide) (by decide) (by decide)) (cc _ (by decide) (by decide) (by decide)) (cc _ (by decide) (by decide) (by decide)), rtP_code r3 (cc _ (by decide) (by decide) (by decide)) (cc _ (by decide) (by decide) (by decide)), ?_, rtH_code r5 (fun x a b => cc x (by omega) (by omega) (by omega)), ?_⟩
    · refine rtO_code (rtO_an r4 (fun e' _ => ⟨up2_ne2 (by omega), up2_ne2 (by omega)⟩)) (fun x a b => cc x (by omega) (by omega) (by omega))
    · intro e' he' s' hs'
      obtain ⟨z1, z2⟩ := r6 e' he' s' hs'
      have n19 : aN (sN (uR A (up1 (aR A) e (aR A e ++ [(s, v, m)]))) e (23 + s) (aN A e (23 + s) + 1)) e' (19 + s') = aN A e' (19 + s') := up2_ne2 (by omega)
      have n23 : aN (sN (uR A (up1 (aR A) e (aR A e ++ [(s, v, m)]))) e (23 + s) (aN A e (23 + s) + 1)) e' (23 + s') = if e' = e ∧ s' = s then aN A e (23 + s) + 1 else aN A e' (23 + s') := by
        show up2 (aN A) e (23 + s) (aN A e (23 + s) + 1) e' (23 + s') = _
        unfold up2
        by_cases q : e' = e ∧ s' = s
        · rw [if_pos q, if_pos ⟨q.1, by omega⟩]
        · rw [if_neg q, if_neg (fun z => q ⟨z.1, by omega⟩)]
      have hf3 := hfr e' he' s' hs'
      rw [n19, n23]
      have cell : ∀ i, i < ((aR A e').filter (isS s')).length → ∀ x, x = 1053 ∨ x = 1054 → up3 (up3 (up3 T 1053 0 (512 * (3 * e + s) + aN A e (23 + s)) v) 1054 0 (512 * (3 * e + s) + aN A e (23 + s)) (I m)) 1051 0 (3 * e + s) (I (aN A e (23 + s) + 1)) x 0 (512 * (3 * e' + s') + aN A e' (19 + s') + i) = T x 0 (512 * (3 * e' + s') + aN A e' (19 + s') + i) := by
        intro i hi x hx
        have hj : 512 * (3 * e' + s') + aN A e' (19 + s') + i ≠ 512 * (3 * e + s) + aN A e (23 + s) := by
          intro z
          have : 3 * e' + s' = 3 * e + s := by omega
          have a1 : e' = e := by omega
          have a2 : s' = s := by omega
          subst a1 a2
          omega
        rcases hx with rfl | rfl
        · rw [up3_code (by decide), up3_code (by decide), up3_at, if_neg hj]
        · rw [up3_code (by decide), up3_at, if_neg hj, up3_code (by decide)]
      show _ ∧ ∀ i q, ((up1 (aR A) e (aR A e ++ [(s, v, m)]) e').filter (isS s'))[i]? = some q → _
      by_cases q : e' = e
      · subst q
        have hu : up1 (aR A) e' (aR A e' ++ [(s, v, m)]) e' = aR A e' ++ [(s, v, m)] := up1_eq
        have hu2 : aR (sN (uR A (up1 (aR A) e' (aR A e' ++ [(s, v, m)]))) e' (23 + s) (aN A e' (23 + s) + 1)) e' = aR A e' ++ [(s, v, m)] := up1_eq
        rw [hu, hu2, List.filter_append]
        by_cases q2 : s' = s
        · subst q2
          have hS : ([(s', v, m)] : List RM).filter (isS s') = [(s', v, m)] := List.filter_cons_of_pos (by unfold isS; exact Nat.beq_refl s')
          rw [if_pos ⟨rfl, rfl⟩, hS, List.length_append]
          refine ⟨by rw [z1]; rfl, fun i p hp => ?_⟩
          by_cases hi : i < ((aR A e').filter (isS s')).length
          · rw [List.getElem?_append_left hi] at hp
            rw [cell i hi 1053 (Or.inl rfl), cell i hi 1054 (Or.inr rfl)]
            exact z2 i p hp
          · rw [List.getElem?_append_right (by omega)] at hp
            have hz : i - ((aR A e').filter (isS s')).length = 0 := by
              by_cases z : i - ((aR A e').filter (isS s')).length = 0
              · exact z
              · rw [List.getElem?_eq_none (by simp; omega)] at hp
                cases hp
            rw [hz] at hp
            cases hp
            have hi2 : i = ((aR A e').filter (isS s')).length := by omega
            have ej : 512 * (3 * e' + s') + aN A e' (19 + s') + i = 512 * (3 * e' + s') + aN A e' (23 + s') := by omega
            rw [ej]
            refine ⟨?_, ?_⟩
            · rw [up3_code (by decide), up3_code (by decide), up3_at, if_pos rfl]
            · rw [up3_code (by decide), up3_at, if_pos rfl]
        · have hS : ([(s, v, m)] : List RM).filter (isS s') = [] := List.filter_cons_of_neg (by
            unfold isS
            intro z
            exact q2 (Nat.eq_of_beq_eq_true z).symm)
          rw [if_neg (fun z => q2 z.2), hS, List.append_nil]
          refine ⟨z1, fun i p hp => ?_⟩
          have hi : i < ((aR A e').filter (isS s')).length := (List.getElem?_eq_some_iff.mp hp).1
          rw [cell i hi 1053 (Or.inl rfl), cell i hi 1054 (Or.inr rfl)]
          exact z2 i p hp
      · have hu : up1 (aR A) e (aR A e ++ [(s, v, m)]) e' = aR A e' := up1_ne q
        have hu2 : aR (sN (uR A (up1 (aR A) e (aR A e ++ [(s, v, m)]))) e (23 + s) (aN A e (23 + s) + 1)) e' = aR A e' := up1_ne q
        rw [hu, hu2, if_neg (fun z => q z.1)]
        refine ⟨z1, fun i p hp => ?_⟩
        have hi : i < ((aR A e').filter (isS s')).length := (List.getElem?_eq_some_iff.mp hp).1
        rw [cell i hi 1053 (Or.inl rfl), cell i hi 1054 (Or.inr rfl)]
        exact z2 i p hp
