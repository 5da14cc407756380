theorem rt_word {A : MA} {T : St} (h : RT A T) {e s : Nat} (he : e < 2) (hs : s < 3) {i : Nat} {q : RM} (hq : ((aR A e).filter (isS s))[i]? = some q) : T 1053 0 (512 * (3 * e + s) + aN A e (19 + s) + i) = q.2.1 ∧ T 1054 0 (512 * (3 * e + s) + aN A e (19 + s) + i) = I q.2.2 := (h.2.2.2.2.2.2 e he s hs).2 i q hq
theorem rt_rdy {A : MA} {T : St} (h : RT A T) {e s : Nat} (he : e < 2) (hs : s < 3) : aN A e (23 + s) = aN A e (19 + s) + ((aR A e).filter (isS s)).length := (h.2.2.2.2.2.2 e he s hs).1
theorem sI_same (A : MA) (e i : Nat) : sI A e i (aI A e i) = A := by
  obtain ⟨a, r⟩ := A
  show (up2 a e i (a e i), r) = _
  congr 1
  funext x y
  unfold up2
  split
  · rename_i h; obtain ⟨rfl, rfl⟩ := h; rfl
  · rfl
theorem sI_twice (A : MA) (e i : Nat) (v w : Int32) : sI (sI A e i v) e i w = sI A e i w := by
  obtain ⟨a, r⟩ := A
  show (up2 (up2 a e i v) e i w, r) = (up2 a e i w, r)
  congr 1
  funext x y
  unfold up2
  split <;> rfl
theorem T_e242 {A : MA} {T : St} (h : RT A T) {e s : Nat} (he : e < 2) (hs : s < 3) (hr : aN A e (23 + s) ≤ 512) : sat (f_M_empty_242 0 (I e) (I (3 * e + s)) (T cM_firstReady 0 (3 * e + s), T)) (Sum.elim (fun x => x.1 = I (3 * e + (s + 1)) ∧ RT (sI A e 10 (aI A e 10 + sumR ((aR A e).filter (isS s)))) x.2) (fun _ => False)) := by
  have hL := rt_rdy h he hs
  generalize hF : (aR A e).filter (isS s) = F at *
  refine sat_upP (fun i x => x.1 = I (aN A e (19 + s) + i) ∧ RT (sI A e 10 (aI A e 10 + sumR (F.take i))) x.2) F.length (fun i x hi hx => ?_) (fun x hx => ?_) ⟨rt_firstReady h he hs, ?_⟩ (by omega)
  · obtain ⟨c, T1⟩ := x
    obtain ⟨rfl, h1⟩ := hx
    replace h1 : RT _ T1 := h1
    have hq : F[i]? = some F[i] := List.getElem?_eq_getElem hi
    have w1 := (rt_word h1 he hs (i := i) (q := F[i]) (by show ((aR A e).filter (isS s))[i]? = _; rw [hF]; exact hq)).2
    have e1 : T1 cM_readies 0 (3 * e + s) = I (aN A e (23 + s)) := rt_readies h1 he hs
    unfold f_M_empty_242_b
    simp (disch := omega) only [I_lit, I_lt, I_add, I_mul, inbT, I_ix, if_true, e1]
    rw [if_pos (by omega)]
    refine .some ⟨by simp only [Nat.add_assoc], ?_⟩
    dsimp only
    have w2 : T1 cM_words 0 (512 * (3 * e + s) + (aN A e (19 + s) + i)) = I F[i].2.2 := by rw [← Nat.add_assoc]; exact w1
    rw [w2, rt_kept h1 he]
    have := rs_kept h1 (e := e) (v := aI (sI A e 10 (aI A e 10 + sumR (F.take i))) e 10 + I F[i].2.2)
    rw [sI_twice] at this
    have z : aI (sI A e 10 (aI A e 10 + sumR (F.take i))) e 10 = aI A e 10 + sumR (F.take i) := up2_eq
    rw [z] at this ⊢
    rw [List.take_succ_eq_append_getElem hi, sumR_app]
    have y : sumR [F[i]] = I F[i].2.2 := Int32.add_zero _
    rw [y, ← Int32.add_assoc]
    exact this
  · obtain ⟨c, T1⟩ := x
    obtain ⟨rfl, h1⟩ := hx
    replace h1 : RT _ T1 := h1
    have e1 : T1 cM_readies 0 (3 * e + s) = I (aN A e (23 + s)) := rt_readies h1 he hs
    unfold f_M_empty_242_b
    simp (disch := omega) only [I_lit, I_lt, I_add, I_mul, inbT, I_ix, if_true, e1]
    rw [if_neg (by omega)]
    refine .exW (.some ⟨by simp only [Nat.add_assoc], ?_⟩)
    rw [List.take_length] at h1
    exact h1
  · show RT (sI A e 10 (aI A e 10 + 0)) T
    rw [Int32.add_zero, sI_same]
    exact h
theorem T_e226 {A : MA} {T : St} (h : RT A T) {e : Nat} (he : e < 2) (hs : ∀ q ∈ aR A e, q.1 < 3) (hr : ∀ s, s < 3 → aN A e (23 + s) ≤ 512) : sat (f_M_empty_226 0 (I e) (I (3 * e), T)) (fun T' => RT (sI A e 10 (aI A e 10 + sumR (aR A e))) T') := by
  have sm : ∀ i, i < 4 → sumR (aR A e) = sumR (aR A e) := fun _ _ => rfl
  let sk : Nat → Int32 := fun i => match i with
    | 0 => 0
    | 1 => sumR ((aR A e).filter (isS 0))
    | 2 => sumR ((aR A e).filter (isS 0)) + sumR ((aR A e).filter (isS 1))
    | _ => sumR ((aR A e).filter (isS 0)) + sumR ((aR A e).filter (isS 1)) + sumR ((aR A e).filter (isS 2))
  have sk1 : ∀ i, i < 3 → sk (i + 1) = sk i + sumR ((aR A e).filter (isS i)) := by
    intro i hi
    have : i = 0 ∨ i = 1 ∨ i = 2 := by omega
    rcases this with rfl | rfl | rfl
    · exact (Int32.zero_add _).symm
    · rfl
    · rfl
  refine sat_upP (fun i x => x.1 = I (3 * e + i) ∧ RT (sI A e 10 (aI A e 10 + sk i)) x.2) 3 (fun i x hi hx => ?_) (fun x hx => ?_) ⟨rfl, ?_⟩ (by decide)
  · obtain ⟨c, T1⟩ := x
    obtain ⟨rfl, h1⟩ := hx
    replace h1 : RT _ T1 := h1
    unfold f_M_empty_226_b
    simp (disch := omega) only [I_lit, I_lt, I_add, I_mul, inbT, I_ix, if_true]
    rw [if_pos (by omega)]
    refine (T_e242 h1 he hi (hr i hi)).imp (fun x hx => ?_)
    cases x with
    | inr _ => exact hx
    | inl x =>
      refine ⟨hx.1, ?_⟩
      have := hx.2
      rw [sI_twice] at this
      have z : aI (sI A e 10 (aI A e 10 + sk i)) e 10 = aI A e 10 + sk i := up2_eq
      rw [z] at this
      rw [sk1 i hi, ← Int32.add_assoc]
      exact this
  · obtain ⟨c, T1⟩ := x
    obtain ⟨rfl, h1⟩ := hx
    replace h1 : RT _ T1 := h1
    unfold f_M_empty_226_b
    simp (disch := omega) only [I_lit, I_lt, I_add, I_mul, inbT, I_ix, if_true]
    rw [if_neg (by omega)]
    refine .exW (.some ?_)
    rw [sumR_three _ hs]
    exact h1
  · show RT (sI A e 10 (aI A e 10 + 0)) T
    rw [Int32.add_zero, sI_same]
    exact h
theorem T_e134 {A : MA} {T : St} (h : RT A T) {e : Nat} (he : e < 2) (hs : ∀ q ∈ aR A e, q.1 < 3) (hr : ∀ s, s < 3 → aN A e (23 + s) ≤ 512) : sat (f_M_empty_134 0 (I e) (I (2 * e), T)) (fun T' => RT (sI (sI (sI (sN (eP A e 2) e 2 0) e 4 0) e 5 (I (gN A 1))) e 10 (sumR (aR A e))) T') := by
  refine sat_upP (fun i x => x.1 = I (2 * e + i) ∧ RT (eP A e i) x.2) 2 (fun i x hi hx => ?_) (fun x hx => ?_) ⟨rfl, (show RT (eP A e 0) T from h)⟩ (by decide)
  · obtain ⟨c, T1⟩ := x
    obtain ⟨rfl, h1⟩ := hx
    replace h1 : RT _ T1 := h1
    unfold f_M_empty_134_b
    simp (disch := omega) only [I_lit, I_lt, I_add, I_mul, inbT, I_ix, if_true]
    rw [if_pos (by omega)]
    refine .some ⟨rfl, ?_⟩
    exact rs_beating (rs_runs (rs_errors (rs_wait (rs_rate (rs_active h1 hi rfl) hi rfl) hi rfl) hi) hi rfl) hi rfl
  · obtain ⟨c, T1⟩ := x
    obtain ⟨rfl, h1⟩ := hx
    replace h1 : RT _ T1 := h1
    unfold f_M_empty_134_b
    simp (disch := omega) only [I_lit, I_lt, I_add, I_mul, inbT, I_ix, if_true]
    rw [if_neg (by omega), rt_room h1]
    have h2 := rs_kept (rs_window (rs_allErrors (rs_primary h1 (e := e) (v := 0) (w := I 0) rfl) (e := e) (v := I 0)) (e := e) (v := I (gN A 1))) (e := e) (v := I 0)
    have hR : aR (eP A e 2) = aR A := rfl
    refine .exW ((T_e226 h2 he hs (fun s hs' => ?_)).imp (fun T' h3 => ?_))
    · show up2 (aN (eP A e 2)) e 2 0 e (23 + s) ≤ 512
      rw [up2_ne2 (by omega)]
      show up2 (up2 (up2 (up2 (aN A) e 7 2) e 9 3) e 8 2) e 10 3 e (23 + s) ≤ 512
      rw [up2_ne2 (by omega), up2_ne2 (by omega), up2_ne2 (by omega), up2_ne2 (by omega)]
      exact hr s hs'
    · rw [sI_twice] at h3
      have z : ∀ B : MA, aI (sI B e 10 (I 0)) e 10 = 0 := fun B => up2_eq
      rw [z, Int32.zero_add] at h3
      exact h3
theorem T_e97 {A : MA} {T : St} (h : RT A T) {e : Nat} (he : e < 2) (hs : ∀ q ∈ aR A e, q.1 < 3) (hr : ∀ s, s < 3 → aN A e (23 + s) ≤ 512) : sat (f_M_empty_97 0 (I e) (I 0, T)) (fun T' => RT (sI (sI (sI (sN (eP (eO A e 3) e 2) e 2 0) e 4 0) e 5 (I (gN A 1))) e 10 (sumR (aR A e))) T') := by
  refine sat_upP (fun i x => x.1 = I i ∧ RT (eO A e i) x.2) 3 (fun i x hi hx => ?_) (fun x hx => ?_) ⟨rfl, (show RT (eO A e 0) T from h)⟩ (by decide)
  · obtain ⟨c, T1⟩ := x
    obtain ⟨rfl, h1⟩ := hx
    replace h1 : RT _ T1 := h1
    unfold f_M_empty_97_b
    simp (disch := omega) only [I_lit, I_lt, I_add, I_mul, inbT, I_ix, if_true]
    rw [if_pos (by omega)]
    refine .some ⟨rfl, ?_⟩
    exact rs_nextOrder (rs_orders h1 hi rfl) hi rfl
  · obtain ⟨c, T1⟩ := x
    obtain ⟨rfl, h1⟩ := hx
    replace h1 : RT _ T1 := h1
    unfold f_M_empty_97_b
    simp (disch := omega) only [I_lit, I_lt, I_add, I_mul, inbT, I_ix, if_true]
    rw [if_neg (by omega)]
    refine .exW ((T_e134 h1 he hs (fun s hs' => ?_)).imp (fun T' h3 => h3))
    show up2 (up2 (up2 (up2 (up2 (up2 (aN A) e 13 0) e 16 0) e 14 0) e 17 0) e 15 0) e 18 0 e (23 + s) ≤ 512
    rw [up2_ne2 (by omega), up2_ne2 (by omega), up2_ne2 (by omega), up2_ne2 (by omega), up2_ne2 (by omega), up2_ne2 (by omega)]
    exact hr s hs'
theorem eH_zero (A : MA) (e : Nat) : eH A e 0 = A := by
  unfold eH
  have : (fun x i n => if x = e ∧ i < 2 ∧ n < 0 then false else aH A x i n) = aH A := by
    funext x i n
    rw [if_neg (by omega)]
  rw [this]
theorem T_e56 {A : MA} {T : St} (h : RT A T) {e : Nat} (he : e < 2) (hs : ∀ q ∈ aR A e, q.1 < 3) (hr : ∀ s, s < 3 → aN A e (23 + s) ≤ 512) : sat (f_M_empty_56 0 (I e) (I 0, T)) (fun T' => RT (sI (sI (sI (sN (eP (eO (eH A e 544) e 3) e 2) e 2 0) e 4 0) e 5 (I (gN A 1))) e 10 (sumR (aR A e))) T') := by
  refine sat_upP (fun i x => x.1 = I i ∧ RT (eH A e i) x.2) 544 (fun i x hi hx => ?_) (fun x hx => ?_) ⟨rfl, by rw [eH_zero]; exact h⟩ (by decide)
  · obtain ⟨c, T1⟩ := x
    obtain ⟨rfl, h1⟩ := hx
    replace h1 : RT _ T1 := h1
    unfold f_M_empty_56_b
    simp (disch := omega) only [I_lit, I_lt, I_add, I_mul, inbT, I_ix, if_true]
    rw [if_pos (by omega)]
    refine .some ⟨rfl, ?_⟩
    show RT (uW (uH (eH A e i) _) (aW A)) (up3 (up3 T1 1043 0 (544 * e + i) (I 0)) 1044 0 (544 * e + i) (I 0))
    refine RT_H h1 (fun x hx => by rw [up3_code (by omega), up3_code (by omega)]) (fun e' he' n hn => ?_)
    have h2 := rt_h h1 he' hn
    rw [up3_code (x := 1044) (y := 1043) (by decide), up3_at, up3_at, up3_code (x := 1043) (y := 1044) (by decide)]
    by_cases hc : e' = e ∧ n = i
    · obtain ⟨rfl, rfl⟩ := hc
      have eq : ∀ k, k < 2 → (if e' = e' ∧ k < 2 ∧ n < n + 1 then false else aH A e' k n) = false := fun k hk => if_pos (by omega)
      rw [if_pos rfl, if_pos rfl, eq 0 (by decide), eq 1 (by decide)]
      exact ⟨rfl, rfl, fun z => by cases z⟩
    · have hne : ¬ 544 * e' + n = 544 * e + i := by omega
      rw [if_neg hne, if_neg hne]
      have eq : ∀ k, k < 2 → (if e' = e ∧ k < 2 ∧ n < i + 1 then false else aH A e' k n) = aH (eH A e i) e' k n := by
        intro k hk
        show _ = if e' = e ∧ k < 2 ∧ n < i then false else aH A e' k n
        by_cases hd : e' = e ∧ k < 2 ∧ n < i
        · rw [if_pos hd, if_pos (by omega)]
        · rw [if_neg hd, if_neg (by omega)]
      rw [eq 0 (by decide), eq 1 (by decide)]
      refine ⟨h2.1, h2.2.1, fun z => ?_⟩
      have := h2.2.2 z
      unfold wT at this ⊢
      rw [up3_code (by decide), up3_code (by decide), up3_code (by decide), up3_code (by decide), up3_code (by decide), up3_code (by decide), up3_code (by decide), up3_code (by decide)]
      exact this
  · obtain ⟨c, T1⟩ := x
    obtain ⟨rfl, h1⟩ := hx
    replace h1 : RT _ T1 := h1
    unfold f_M_empty_56_b
    simp (disch := omega) only [I_lit, I_lt, I_add, I_mul, inbT, I_ix, if_true]
    rw [if_neg (by omega)]
    exact .exW (T_e97 h1 he hs hr)
theorem T_e30 {A : MA} {T : St} (h : RT A T) {e : Nat} (he : e < 2) (h0 : aN A e 3 = 0) (h00 : aN A e 4 = 0) (hs : ∀ q ∈ aR A e, q.1 < 3) (hr : ∀ s, s < 3 → aN A e (23 + s) ≤ 512) : sat (f_M_empty_30 0 (I e) (I 0, T)) (fun T' => RT (sI (sI (sI (sN (eP (eO (eH A e 544) e 3) e 2) e 2 0) e 4 0) e 5 (I (gN A 1))) e 10 (sumR (aR A e))) T') := by
  refine sat_upP (fun i x => x.1 = I i ∧ RT A x.2) 32 (fun i x hi hx => ?_) (fun x hx => ?_) ⟨rfl, h⟩ (by decide)
  · obtain ⟨c, T1⟩ := x
    obtain ⟨rfl, h1⟩ := hx
    replace h1 : RT _ T1 := h1
    unfold f_M_empty_30_b
    simp (disch := omega) only [I_lit, I_lt, I_add, I_mul, inbT, I_ix, if_true]
    rw [if_pos (by omega)]
    refine .some ⟨rfl, ?_⟩
    show RT (uO A (aO A)) (up3 T1 1034 0 (32 * e + i) (I 0))
    refine RT_O h1 (fun x hx => by rw [up3_code (by omega)]) (fun e' he' n h2 h3 => ?_)
    by_cases hc : e' = e
    · subst hc; omega
    · have := rt_o h1 he' h2 h3
      unfold oT at this ⊢
      rw [up3_at, if_neg (by omega), up3_code (by decide), up3_code (by decide), up3_code (by decide), up3_code (by decide), up3_code (by decide), up3_code (by decide)]
      exact this
  · obtain ⟨c, T1⟩ := x
    obtain ⟨rfl, h1⟩ := hx
    replace h1 : RT _ T1 := h1
    unfold f_M_empty_30_b
    simp (disch := omega) only [I_lit, I_lt, I_add, I_mul, inbT, I_ix, if_true]
    rw [if_neg (by omega)]
    exact .exW (T_e56 h1 he hs hr)
