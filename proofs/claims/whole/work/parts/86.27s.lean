/-! What is asked of the class. -/
def idxS (s : Nat) : List RM → Nat
  | [] => 0
  | q :: l => if isS s q = true then 0 else idxS s l + 1
theorem isS_I {q : RM} {s : Nat} (hs : s < 3) (hq : q.1 < 3) : (I q.1 = I s) ↔ isS s q = true := by
  rw [I_eq (by omega) (by omega)]
  unfold isS
  rw [Nat.beq_eq]
theorem S_fof {L : List RM} {e s : Nat} {S : St} (h : rS L e S) (hl : L.length ≤ 512) (hs : s < 3) (hL : ∀ q ∈ L, q.1 < 3) : f_ReadyList_firstOf e (I s) S = some (if idxS s L < L.length then I (idxS s L) else -1) := by
  obtain ⟨h1, h2, h3⟩ := h
  have h1' : S cReadyList_count e 0 = I L.length := h1
  have key : sat (f_ReadyList_firstOf e (I s) S) (fun r => r = if idxS s L < L.length then I (idxS s L) else -1) := by
    unfold f_ReadyList_firstOf f_ReadyList_firstOf_2
    refine sat_iter (fun j x => ∃ k, x = I k ∧ k + j = L.length ∧ idxS s L = k + idxS s (L.drop k)) (P := fun r => r = if idxS s L < L.length then I (idxS s L) else -1) ?_ (i := L.length) (by omega) ⟨0, rfl, by omega, (by rw [List.drop_zero, Nat.zero_add])⟩
    rintro j x ⟨k, rfl, hk, hi⟩
    unfold f_ReadyList_firstOf_2_b
    rw [h1']
    cases j with
    | zero =>
      rw [if_neg (fun z => by have := (I_lt (by omega) (by omega)).mp z; omega)]
      rw [List.drop_of_length_le (by omega)] at hi
      have : idxS s L = k := hi
      exact .exW (.some (by rw [if_neg (by omega)]; rfl))
    | succ j =>
      have hkl : k < L.length := by omega
      obtain ⟨w1, w2, w3⟩ := h3 k L[k] (List.getElem?_eq_getElem hkl)
      have w1' : S cReadyList_streams e k = I L[k].1 := w1
      have hd : L.drop k = L[k] :: L.drop (k + 1) := List.drop_eq_getElem_cons hkl
      rw [hd] at hi
      have hq := isS_I (q := L[k]) hs (hL _ (List.getElem_mem hkl))
      rw [if_pos ((I_lt (by omega) (by omega)).mpr hkl), inbT (show k < 512 by omega) (by decide), if_pos rfl, I_ix (by omega), w1']
      by_cases hz : isS s L[k] = true
      · rw [if_pos (hq.mpr hz)]
        have : idxS s L = k := by
          rw [hi]
          show k + (if isS s L[k] = true then 0 else _) = k
          rw [if_pos hz]
          rfl
        exact .exW (.some (by rw [if_pos (by omega), this]; rfl))
      · rw [if_neg (fun z => hz (hq.mp z))]
        refine .some ⟨j, by omega, k + 1, I_add k 1, by omega, ?_⟩
        rw [hi]
        show k + (if isS s L[k] = true then 0 else idxS s (L.drop (k + 1)) + 1) = _
        rw [if_neg hz]
        omega
  obtain ⟨r, z1, rfl⟩ := key
  exact z1
/-- the first of a stream, and the rest -/
theorem split_S (s : Nat) : ∀ L : List RM, (L.filter (isS s) = [] ∧ idxS s L = L.length) ∨ ∃ L1 q L2, L = L1 ++ q :: L2 ∧ idxS s L = L1.length ∧ L.filter (isS s) = q :: L2.filter (isS s) ∧ L.eraseP (isS s) = L1 ++ L2 ∧ L.find? (isS s) = some q
  | [] => Or.inl ⟨rfl, rfl⟩
  | q :: l => by
    by_cases hz : isS s q = true
    · refine Or.inr ⟨[], q, l, rfl, ?_, List.filter_cons_of_pos hz, ?_, List.find?_cons_of_pos hz⟩
      · show (if isS s q = true then 0 else _) = 0
        rw [if_pos hz]
      · rw [List.eraseP_cons_of_pos hz]; rfl
    · have hi : idxS s (q :: l) = idxS s l + 1 := if_neg hz
      rcases split_S s l with ⟨a, b⟩ | ⟨L1, q', L2, a, b, c, d, f⟩
      · refine Or.inl ⟨?_, ?_⟩
        · rw [List.filter_cons_of_neg hz]; exact a
        · rw [hi, b]; rfl
      · refine Or.inr ⟨q :: L1, q', L2, by rw [a]; rfl, by rw [hi, b]; rfl, ?_, ?_, ?_⟩
        · rw [List.filter_cons_of_neg hz]; exact c
        · rw [List.eraseP_cons_of_neg hz, d]; rfl
        · rw [List.find?_cons_of_neg hz]; exact f
theorem S_lenq {A : MA} {S : St} (h : RS A S) {e s : Nat} (he : e < 2) (hs : s < 3) (hl : (aR A e).length ≤ 512) (hL : ∀ q ∈ aR A e, q.1 < 3) : f_L_length 0 (I e) (I s) S = some (m_lenq A e s) := by
  obtain ⟨r1, r2, r3⟩ := (h.e he).2.1.2.2
  unfold f_L_length f_ReadyList_firstLength m_lenq m_fil
  rw [if_neg (isEnd_I he), if_neg (isStr_I hs), inbT he (by decide), if_pos rfl, I_ix (by omega)]
  have hfo := S_fof ⟨r1, r2, r3⟩ hl hs hL
  rcases split_S s (aR A e) with ⟨a, b⟩ | ⟨L1, q, L2, a, b, c, d, f⟩
  · rw [b, if_neg (by omega)] at hfo
    rw [hfo, bdS, if_pos rfl, a]
    rfl
  · have hlen : (aR A e).length = L1.length + (L2.length + 1) := by rw [a, List.length_append]; rfl
    have hq := r3 L1.length q (by rw [a, List.getElem?_append_right (Nat.le_refl _), Nat.sub_self]; rfl)
    rw [b, if_pos (by omega)] at hfo
    rw [hfo, bdS, if_neg (show ¬ I L1.length = -1 from fun z => by
      have h0 : (I L1.length).toInt = L1.length := I_toInt (by omega)
      rw [z] at h0
      have h1 : (-1 : Int32).toInt = -1 := rfl
      omega), inbT (show L1.length < 512 by omega) (by decide), if_pos rfl, I_ix (by omega), c]
    exact congrArg some hq.2.2
theorem cnt_take {L : List RM} {s k : Nat} (hk : k < L.length) : ((L.take (k + 1)).filter (isS s)).length = ((L.take k).filter (isS s)).length + (if isS s L[k] = true then 1 else 0) := by
  rw [List.take_succ_eq_append_getElem hk, List.filter_append, List.length_append]
  congr 1
  by_cases hz : isS s L[k] = true
  · rw [if_pos hz, List.filter_cons_of_pos hz]; rfl
  · rw [if_neg hz, List.filter_cons_of_neg hz]; rfl
theorem S_readyq {A : MA} {S : St} (h : RS A S) {e s : Nat} (he : e < 2) (hs : s < 3) (hl : (aR A e).length ≤ 512) (hL : ∀ q ∈ aR A e, q.1 < 3) : f_L_ready 0 (I e) (I s) S = some (I (m_fil A e s).length) := by
  obtain ⟨r1, r2, r3⟩ := (h.e he).2.1.2.2
  have r1' : S cReadyList_count e 0 = I (aR A e).length := r1
  have key : sat (f_ReadyList_countOf e (I s) S) (fun r => r = I (m_fil A e s).length) := by
    unfold f_ReadyList_countOf f_ReadyList_countOf_4
    refine sat_upP (fun i x => x = (I (((aR A e).take i).filter (isS s)).length, I i)) (aR A e).length (fun i x hi hx => ?_) (fun x hx => ?_) rfl (by omega)
    · subst hx
      obtain ⟨w1, w2, w3⟩ := r3 i (aR A e)[i] (List.getElem?_eq_getElem hi)
      have w1' : S cReadyList_streams e i = I (aR A e)[i].1 := w1
      have hq := isS_I (q := (aR A e)[i]) hs (hL _ (List.getElem_mem hi))
      unfold f_ReadyList_countOf_4_b f_ReadyList_countOf_25
      dsimp only
      rw [r1', if_pos ((I_lt (by omega) (by omega)).mpr hi), inbT (show i < 512 by omega) (by decide), if_pos rfl, I_ix (by omega), w1', cnt_take hi]
      by_cases hz : isS s (aR A e)[i] = true
      · rw [if_pos (hq.mpr hz), if_pos hz]
        refine .some ?_
        rw [show (1 : Int32) = I 1 from rfl, I_add, I_add]
        rfl
      · rw [if_neg (fun z => hz (hq.mp z)), if_neg hz]
        refine .some ?_
        rw [show (1 : Int32) = I 1 from rfl, I_add]
        rfl
    · subst hx
      unfold f_ReadyList_countOf_4_b
      dsimp only
      rw [r1', if_neg (fun z => by have := (I_lt (by omega) (by omega)).mp z; omega), List.take_length]
      exact .exW (.some rfl)
  obtain ⟨r, z1, rfl⟩ := key
  unfold f_L_ready
  rw [if_neg (isEnd_I he), if_neg (isStr_I hs), inbT he (by decide), if_pos rfl, I_ix (by omega), z1]
  rfl
theorem S_read {A : MA} {S : St} (h : RS A S) {e s : Nat} (he : e < 2) (hs : s < 3) (hl : (aR A e).length ≤ 512) (hL : ∀ q ∈ aR A e, q.1 < 3) : sat (f_L_read 0 (I e) (I s) S) (fun x => x.1 = m_popq A e s ∧ RS (m_pop A e s) x.2) := by
  obtain ⟨r1, r2, r3⟩ := id (h.e he).2.1.2.2
  have r1' : S cReadyList_count e 0 = I (aR A e).length := r1
  have r2' : S cReadyList_words e 0 = sumR (aR A e) := r2
  unfold f_L_read f_ReadyList_takeFirst m_popq m_pop m_fil
  rw [if_neg (isEnd_I he), if_neg (isStr_I hs), inbT he (by decide), if_pos rfl, I_ix (by omega)]
  have hfo := S_fof ⟨r1, r2, r3⟩ hl hs hL
  rcases split_S s (aR A e) with ⟨a, b⟩ | ⟨L1, q, L2, a, b, c, d, f⟩
  · rw [b, if_neg (by omega)] at hfo
    rw [hfo, bdS, if_pos rfl, a]
    have hf : (aR A e).find? (isS s) = none := by rw [find_fil, a]; rfl
    rw [hf]
    exact .some ⟨rfl, h⟩
  · have hlen : (aR A e).length = L1.length + (L2.length + 1) := by rw [a, List.length_append]; rfl
    obtain ⟨w1, w2, w3⟩ := r3 L1.length q (by rw [a, List.getElem?_append_right (Nat.le_refl _), Nat.sub_self]; rfl)
    have w2' : S cReadyList_firstWords e L1.length = q.2.1 := w2
    have w3' : S cReadyList_lengths e L1.length = I q.2.2 := w3
    rw [b, if_pos (by omega)] at hfo
    rw [hfo, bdS, if_neg (show ¬ I L1.length = -1 from fun z => by
      have h0 : (I L1.length).toInt = L1.length := I_toInt (by omega)
      rw [z] at h0
      have h1 : (-1 : Int32).toInt = -1 := rfl
      omega), inbT (show L1.length < 512 by omega) (by decide), if_pos rfl, if_pos rfl, I_ix (by omega), c, f, w2', w3', r1', r2', show I (aR A e).length - 1 = I ((aR A e).length - 1) from I_sub (b := 1) (by omega)]
    dsimp only
    generalize hS0 : up3 (up3 S cReadyList_words e 0 (sumR (aR A e) - I q.2.2)) cReadyList_count e 0 (I ((aR A e).length - 1)) = S0
    have f0 : ∀ x i, (x ≠ 45 ∧ x ≠ 46 ∨ i ≠ e) → S0 x i = S x i := fun x i hx => by rw [← hS0, up3_ob (c := 45) (by omega), up3_ob (c := 46) (by omega)]
    have loop : sat (f_ReadyList_takeFirst_48 e q.2.1 (I L1.length, S0)) (fun x => x.1 = q.2.1 ∧ (∀ y k, (y < 42 ∨ 44 < y ∨ k ≠ e) → x.2 y k = S0 y k) ∧ ∀ y, 42 ≤ y → y ≤ 44 → ∀ k, k < (aR A e).length - 1 → x.2 y e k = if L1.length ≤ k then S0 y e (k + 1) else S0 y e k) := by
      unfold f_ReadyList_takeFirst_48
      refine sat_upP (fun i x => x.1 = I (L1.length + i) ∧ (∀ y k, (y < 42 ∨ 44 < y ∨ k ≠ e) → x.2 y k = S0 y k) ∧ ∀ y, 42 ≤ y → y ≤ 44 → ∀ k, x.2 y e k = if L1.length ≤ k ∧ k < L1.length + i then S0 y e (k + 1) else S0 y e k) L2.length (fun i x hi hx => ?_) (fun x hx => ?_) ⟨rfl, fun _ _ _ => rfl, fun y _ _ k => ?_⟩ (by omega)
      · obtain ⟨cc, S1⟩ := x
        obtain ⟨rfl, z1, z2⟩ := hx
        replace z1 : ∀ y k, (y < 42 ∨ 44 < y ∨ k ≠ e) → S1 y k = S0 y k := z1
        replace z2 : ∀ y, 42 ≤ y → y ≤ 44 → ∀ k, S1 y e k = if L1.length ≤ k ∧ k < L1.length + i then S0 y e (k + 1) else S0 y e k := z2
        have hc : S1 cReadyList_count e 0 = I ((aR A e).length - 1) := by
          rw [z1 45 e (by omega), ← hS0, up3_at, if_pos rfl]
        unfold f_ReadyList_takeFirst_48_b
        simp (disch := omega) only [hc, I_lit, I_lt, I_add, inbT, I_ix, if_true]
        rw [if_pos (by omega)]
        have g : ∀ y, 42 ≤ y → y ≤ 44 → S1 y e (L1.length + i + 1) = S0 y e (L1.length + i + 1) := fun y p q => by rw [z2 y p q, if_neg (by omega)]
        have g42 : S1 cReadyList_streams e (L1.length + i + 1) = S0 42 e (L1.length + i + 1) := g 42 (by decide) (by decide)
        have g43 : S1 cReadyList_firstWords e (L1.length + i + 1) = S0 43 e (L1.length + i + 1) := g 43 (by decide) (by decide)
        have g44 : S1 cReadyList_lengths e (L1.length + i + 1) = S0 44 e (L1.length + i + 1) := g 44 (by decide) (by decide)
        refine .some ⟨rfl, fun y k hy => ?_, fun y p q k => ?_⟩
        · dsimp only
          rw [up3_ob (c := 44) (by omega), up3_ob (c := 43) (by omega), up3_ob (c := 42) (by omega)]
          exact z1 y k hy
        · dsimp only
          rw [g42, g43, g44]
          have hy : y = 42 ∨ y = 43 ∨ y = 44 := by omega
          by_cases hk : k = L1.length + i
          · subst hk
            rw [if_pos (show L1.length ≤ L1.length + i ∧ L1.length + i < L1.length + (i + 1) by omega)]
            rcases hy with rfl | rfl | rfl
            · rw [up3_code (by decide), up3_code (by decide), up3_at, if_pos rfl]
            · rw [up3_code (by decide), up3_at, if_pos rfl]
            · rw [up3_at, if_pos rfl]
          · have e1 : up3 (up3 (up3 S1 cReadyList_streams e (L1.length + i) (S0 42 e (L1.length + i + 1))) cReadyList_firstWords e (L1.length + i) (S0 43 e (L1.length + i + 1))) cReadyList_lengths e (L1.length + i) (S0 44 e (L1.length + i + 1)) y e k = S1 y e k := by
              rw [up3_oj (c := 44) (by omega), up3_oj (c := 43) (by omega), up3_oj (c := 42) (by omega)]
            rw [e1, z2 y p q k]
            by_cases hr : L1.length ≤ k ∧ k < L1.length + i
            · rw [if_pos hr, if_pos (by omega)]
            · rw [if_neg hr, if_neg (by omega)]
      · obtain ⟨cc, S1⟩ := x
        obtain ⟨rfl, z1, z2⟩ := hx
        replace z1 : ∀ y k, (y < 42 ∨ 44 < y ∨ k ≠ e) → S1 y k = S0 y k := z1
        replace z2 : ∀ y, 42 ≤ y → y ≤ 44 → ∀ k, S1 y e k = if L1.length ≤ k ∧ k < L1.length + L2.length then S0 y e (k + 1) else S0 y e k := z2
        have hc : S1 cReadyList_count e 0 = I ((aR A e).length - 1) := by
          rw [z1 45 e (by omega), ← hS0, up3_at, if_pos rfl]
        unfold f_ReadyList_takeFirst_48_b
        dsimp only
        rw [hc, if_neg (fun z => by have := (I_lt (by omega) (by omega)).mp z; omega)]
        refine .exW (.some ⟨rfl, z1, fun y p q k hk => ?_⟩)
        dsimp only
        rw [z2 y p q k]
        by_cases hr : L1.length ≤ k
        · rw [if_pos ⟨hr, by omega⟩, if_pos hr]
        · rw [if_neg (fun z => hr z.1), if_neg hr]
      · dsimp only
        rw [if_neg (by omega)]
    refine .bd2 loop (fun r S1 hx => .some ⟨hx.1, ?_⟩)
    dsimp only
    obtain ⟨_, z1, z2⟩ := hx
    replace z1 : ∀ y k, (y < 42 ∨ 44 < y ∨ k ≠ e) → S1 y k = S0 y k := z1
    replace z2 : ∀ y, 42 ≤ y → y ≤ 44 → ∀ k, k < (aR A e).length - 1 → S1 y e k = if L1.length ≤ k then S0 y e (k + 1) else S0 y e k := z2
    have cc : ∀ x i, (x < 42 ∨ 46 < x ∨ i ≠ e) → S1 x i = S x i := fun x i hx => by rw [z1 x i (by omega), f0 x i (by omega)]
    have hsum : sumR (aR A e) - I q.2.2 = sumR (L1 ++ L2) := by
      rw [a, sumR_app, sumR_app]
      show sumR L1 + (I q.2.2 + sumR L2) - I q.2.2 = _
      rw [show sumR L1 + (I q.2.2 + sumR L2) = (sumR L1 + sumR L2) + I q.2.2 by ac_rfl, Int32.add_sub_cancel]
    have mR : aR (sI (sN (uR A (up1 (aR A) e ((aR A e).eraseP (isS s)))) e (19 + s) (aN A e (19 + s) + 1)) e 10 (aI A e 10 - I q.2.2)) e = L1 ++ L2 := by
      show up1 (aR A) e ((aR A e).eraseP (isS s)) e = _
      rw [up1_eq, d]
    have mN : ∀ i, i < 19 → aN (sI (sN (uR A (up1 (aR A) e ((aR A e).eraseP (isS s)))) e (19 + s) (aN A e (19 + s) + 1)) e 10 (aI A e 10 - I q.2.2)) e i = aN A e i := fun i hi => up2_ne2 (by omega)
    have mI : ∀ i, i < 10 → aI (sI (sN (uR A (up1 (aR A) e ((aR A e).eraseP (isS s)))) e (19 + s) (aN A e (19 + s) + 1)) e 10 (aI A e 10 - I q.2.2)) e i = aI A e i := fun i hi => up2_ne2 (by omega)
    have m10 : aI (sI (sN (uR A (up1 (aR A) e ((aR A e).eraseP (isS s)))) e (19 + s) (aN A e (19 + s) + 1)) e 10 (aI A e 10 - I q.2.2)) e 10 = aI A e 10 - I q.2.2 := up2_eq
    have hR : rS (L1 ++ L2) e S1 := by
      have hl12 : (L1 ++ L2).length = (aR A e).length - 1 := by rw [List.length_append]; omega
      refine ⟨?_, ?_, fun i p hp => ?_⟩
      · rw [z1 45 e (by omega), ← hS0, up3_at, if_pos rfl, hl12]
      · rw [z1 46 e (by omega), ← hS0, up3_code (by decide), up3_at, if_pos rfl]
        exact hsum
      · have hi : i < (L1 ++ L2).length := (List.getElem?_eq_some_iff.mp hp).1
        rw [z2 42 (by decide) (by decide) i (by omega), z2 43 (by decide) (by decide) i (by omega), z2 44 (by decide) (by decide) i (by omega), f0 42 e (by omega), f0 43 e (by omega), f0 44 e (by omega)]
        by_cases hz : L1.length ≤ i
        · rw [if_pos hz, if_pos hz, if_pos hz]
          refine r3 (i + 1) p ?_
          rw [List.getElem?_append_right hz] at hp
          rw [a, List.getElem?_append_right (by omega), show i + 1 - L1.length = (i - L1.length) + 1 by omega]
          exact hp
        · rw [if_neg hz, if_neg hz, if_neg hz]
          refine r3 i p ?_
          rw [List.getElem?_append_left (by omega)] at hp
          rw [a, List.getElem?_append_left (by omega)]
          exact hp
    refine RS_up h he ⟨RSx_H (h.e he) he mI (fun i hi _ => mN i (by omega)) ⟨rfl, rfl⟩ rfl ⟨rfl, rfl, rfl⟩ (fun x i p q r => cc x i (by omega)) (fun t ht => ?_) ?_ ?_ (hS_c (h.e he).2.1.2.1 (mN 5 (by decide)) rfl rfl (cc 18 e (by omega)) (fun x k a b hk => cc x _ (by omega))) (by rw [mR]; exact hR), fun x i hx => ?_⟩ ?_ (fun r hr => rfl) rfl rfl
    · rw [cc 19 e (by omega), mN (16 + t) (by omega)]
      exact sr_nextO (h.e he) ht
    · rw [cc 20 e (by omega), m10, mR, ← hsum]
      have := sr_unr (h.e he)
      rw [this, Int32.sub_eq_add_neg, Int32.sub_eq_add_neg, Int32.sub_eq_add_neg, Int32.sub_eq_add_neg, Int32.neg_add, Int32.sub_eq_add_neg, Int32.neg_neg]
      have hz : ∀ x y z : Int32, x + -y = x + -z + (-y + z) := fun x y z => by
        rw [show x + -z + (-y + z) = x + -y + (-z + z) by ac_rfl, Int32.add_left_neg, Int32.add_zero]
      exact hz _ _ _
    · rw [cc 21 e (by omega), mN 5 (by omega)]
      exact sr_latest (h.e he)
    · refine cc x i ?_
      by_cases z : (42 ≤ x ∧ x ≤ 46) ∧ i = e
      · exact absurd (by rw [z.2]; unfold ownr; rw [if_neg (by omega), if_neg (by omega), if_neg (by omega), if_neg (by omega), if_pos (by omega)]) hx
      · omega
    · refine ⟨fun x hx => ⟨⟨up2_row hx, up2_row hx⟩, ⟨rfl, rfl⟩, ⟨rfl, rfl⟩, up1_ne hx⟩, rfl⟩
theorem S_about {A : MA} {S : St} (h : RS A S) {e : Nat} (he : e < 2) (hb : bO A e) {k : Nat} (hk : k ≤ 9) : f_L_about 0 (I e) (I k) S = some (m_about A e k) := by
  have h0 : S cEnd_state e 0 = aI A e 0 := sr_state (h.e he)
  have h1 : S cEnd_ownTag e 0 = aI A e 1 := sr_own (h.e he)
  have h2 : S cEnd_otherTag e 0 = aI A e 2 := sr_other (h.e he)
  have h3 : S cEnd_report e 0 = aI A e 3 := sr_report (h.e he)
  have h5 : S cInbox_latest e 0 = I (aN A e 5) := sr_latest (h.e he)
  have hf : S cOutbox_firstNumber e 0 = I (aN A e 3 + 1) := sr_first (h.e he)
  have hx : S cOutbox_nextNumber e 0 = I (aN A e 4 + 1) := sr_next (h.e he)
  have b2 := hb.2.1
  unfold f_L_about f_End_tell f_Outbox_count
  rw [if_neg (isEnd_I he), inbT he (by decide), if_pos rfl, I_ix (by omega), h0, h1, h2, h3, h5, hf, hx, S_kept (h.e he), I_sub (by omega), show aN A e 4 + 1 - (aN A e 3 + 1) = m_len A e by unfold m_len; omega]
  have : k = 0 ∨ k = 1 ∨ k = 2 ∨ k = 3 ∨ k = 4 ∨ k = 5 ∨ k = 6 ∨ k = 7 ∨ k = 8 ∨ k = 9 := by omega
  rcases this with rfl | rfl | rfl | rfl | rfl | rfl | rfl | rfl | rfl | rfl
  · rfl
  · rfl
  · rfl
  · rfl
  · rfl
  · show bd (if aI A e 0 = 3 then some (I (aN A e 5)) else some 0) (fun r => some r) = some (if aI A e 0 = 3 then I (aN A e 5) else 0)
    split <;> rfl
  · rfl
  · show bd (if aI A e 0 = 3 then some (S cEnd_allErrors e 0) else some 0) (fun r => some r) = some (if aI A e 0 = 3 then aI A e 4 else 0)
    by_cases hz : aI A e 0 = 3
    · have : S cEnd_allErrors e 0 = aI A e 4 := ((h.e he).1.2 hz).1.2.1
      rw [if_pos hz, if_pos hz, this]; rfl
    · rw [if_neg hz, if_neg hz]; rfl
  · show bd (if aI A e 0 = 3 then some (S cOutbox_window e 0) else some 0) (fun r => some r) = some (if aI A e 0 = 3 then aI A e 5 else 0)
    by_cases hz : aI A e 0 = 3
    · have : S cOutbox_window e 0 = aI A e 5 := ((h.e he).1.2 hz).1.2.2
      rw [if_pos hz, if_pos hz, this]; rfl
    · rw [if_neg hz, if_neg hz]; rfl
  · show bd (if aI A e 0 = 3 then bd (f_End_pathToUse e S) (fun r => some r) else some 0) (fun r => some r) = some (if aI A e 0 = 3 then I (m_ptu A e) else 0)
    by_cases hz : aI A e 0 = 3
    · rw [if_pos hz, if_pos hz, S_ptu ((h.e he).1.2 hz) hb.1]; rfl
    · rw [if_neg hz, if_neg hz]; rfl
theorem S_aboutN {S : St} {e : Nat} (he : e < 2) {k : Int32} (hk : k < 0 ∨ 9 < k) : f_L_about 0 (I e) k S = some (-1) := by
  unfold f_L_about f_End_tell
  rw [if_neg (isEnd_I he), inbT he (by decide), if_pos rfl]
  have hne : ∀ j, j ≤ 9 → ¬ k = I j := fun j hj z => by
    subst z
    rcases hk with z | z
    · have := (I_lt (b := 0) (by omega) (by decide)).mp z
      omega
    · have := (I_lt (a := 9) (by decide) (by omega)).mp z
      omega
  rw [if_neg (show ¬ k = 0 from hne 0 (by decide)), if_neg (show ¬ k = 1 from hne 1 (by decide)), if_neg (show ¬ k = 2 from hne 2 (by decide)), if_neg (show ¬ k = 3 from hne 3 (by decide)), if_neg (show ¬ k = 4 from hne 4 (by decide)), if_neg (show ¬ k = 5 from hne 5 (by decide)), if_neg (show ¬ k = 6 from hne 6 (by decide)), if_neg (show ¬ k = 7 from hne 7 (by decide)), if_neg (show ¬ k = 8 from hne 8 (by decide)), if_neg (show ¬ k = 9 from hne 9 (by decide))]
  rfl
theorem S_pathq {A : MA} {S : St} (h : RS A S) {e p : Nat} (he : e < 2) (hp : p < 2) (hb : bO A e) {k : Nat} (hk : k ≤ 6) : f_L_path 0 (I e) (I p) (I k) S = some (m_pathq A e p k) := by
  have h0 : S cEnd_state e 0 = aI A e 0 := sr_state (h.e he)
  unfold f_L_path f_End_tellOfPath m_pathq
  rw [if_neg (isEnd_I he), if_neg (isPath_I hp), inbT he (by decide), if_pos rfl, I_ix (by omega), h0, if_neg (show ¬ I k < 0 from fun z => by have := (I_lt (b := 0) (by omega) (by decide)).mp z; omega), if_neg (show ¬ (6 : Int32) < I k from fun z => by have := (I_lt (a := 6) (by decide) (by omega)).mp z; omega)]
  by_cases hz : aI A e 0 = 3
  · obtain ⟨⟨p1, p2, p3⟩, p4, ⟨p5, p6⟩, p7, p8⟩ := ((h.e he).1.2 hz).2 p hp
    have p1' : S cPath_rate (2 * e + p) 0 = I (aN A e (7 + p)) := p1
    have p2' : S cPath_wait (2 * e + p) 0 = I (aN A e (9 + p)) := p2
    have p3' : S cPath_errors (2 * e + p) 0 = aI A e (6 + p) := p3
    have p4' : S cPath_active (2 * e + p) 0 = b01 (aB A e p) := p4
    have p5' : S cPath_timerRuns (2 * e + p) 0 = b01 (aB A e (2 + p)) := p5
    have p7' : S cPath_beatOpen (2 * e + p) 0 = b01 (aB A e (4 + p)) := p7
    rw [if_pos hz, inbT hp (by decide), if_pos rfl, I_ix (by omega), p1', p2', p3', p4', p5', p7', b01_nz, b01_nz, b01_nz, b01_ite, b01_ite, b01_ite, S_cout (h.e he) hp hb]
    simp only [if_pos hz]
    have : k = 0 ∨ k = 1 ∨ k = 2 ∨ k = 3 ∨ k = 4 ∨ k = 5 ∨ k = 6 := by omega
    rcases this with rfl | rfl | rfl | rfl | rfl | rfl | rfl <;> rfl
  · rw [if_neg hz]
    simp only [if_neg hz]
    rfl
theorem S_pathN {S : St} {e p : Nat} (he : e < 2) (hp : p < 2) {k : Int32} (hk : k < 0 ∨ 6 < k) : f_L_path 0 (I e) (I p) k S = some (-1) := by
  unfold f_L_path f_End_tellOfPath f_End_tellOfPath_10
  rw [if_neg (isEnd_I he), if_neg (isPath_I hp), inbT he (by decide), if_pos rfl]
  rcases hk with z | z
  · rw [if_pos z]; rfl
  · by_cases z2 : k < 0
    · rw [if_pos z2]; rfl
    · rw [if_neg z2, if_pos z]; rfl
theorem S_wordq {A : MA} {S : St} (h : RS A S) {e : Nat} (he : e < 2) (hb : bO A e) {n : Int32} : f_L_word 0 (I e) n S = some (m_wordq A e n) := by
  obtain ⟨b1, b2, b3, b4, b5, b6, b7, b8⟩ := id hb
  have hf : S cOutbox_firstNumber e 0 = I (aN A e 3 + 1) := sr_first (h.e he)
  have hx : S cOutbox_nextNumber e 0 = I (aN A e 4 + 1) := sr_next (h.e he)
  unfold f_L_word m_wordq
  rw [if_neg (isEnd_I he), inbT he (by decide), if_pos rfl, I_ix (by omega)]
  by_cases h1 : I (aN A e 3) < n
  · by_cases h2 : I (aN A e 4) < n
    · rw [if_neg (fun z => z.2 h2)]
      unfold f_Outbox_stateOf f_Outbox_has f_Outbox_has_20
      rw [hf, hx]
      have z2 : ¬ n < I (aN A e 4 + 1) := fun z => by
        rw [Int32.lt_iff_toInt_lt, I_toInt (by omega)] at z h2
        omega
      simp only [if_neg z2, ite_self, if_true]
      rfl
    · rw [if_pos ⟨h1, h2⟩]
      have h0 : ¬ n < 0 := fun z => by
        rw [Int32.lt_iff_toInt_lt] at z h1
        rw [I_toInt (by omega)] at h1
        have : (0 : Int32).toInt = 0 := rfl
        omega
      obtain ⟨j, hj, rfl⟩ := I_range (by omega) h0 h2
      have h3 : aN A e 3 < j := (I_lt (by omega) (by omega)).mp h1
      rw [S_sof (h.e he) hb h3 (by omega), if_pos hj, bdS, I_toInt (by omega)]
      rfl
  · rw [if_neg (fun z => h1 z.1)]
    unfold f_Outbox_stateOf f_Outbox_has f_Outbox_has_20
    rw [hf, hx]
    have z2 : n < I (aN A e 3 + 1) := by
      rw [Int32.lt_iff_toInt_lt, I_toInt (by omega)] at h1 ⊢
      omega
    simp only [if_pos z2, if_true]
    rfl
