theorem T_among_opened {A : MA} {T : St} (h : RT A T) (hn : (gT A 0).length ≤ 512) {t : Int32} : sat (f_M_among_opened 0 (T 1013 0 0) t T) (fun r => r = b01 (decide (t ∈ gT A 0))) := by
  have hN : T 1013 0 0 = I (gT A 0).length := h.2.2.1.1
  have hA : ∀ i x, (gT A 0)[i]? = some x → T 1014 0 i = x := h.2.2.1.2.1
  generalize gT A 0 = L at *
  unfold f_M_among_opened f_M_among_opened_5
  rw [hN]
  refine sat_upP (fun i x => x = (b01 (decide (t ∈ L.take i)), I i)) L.length (fun i x hi hx => ?_) (fun x hx => ?_) rfl (by omega)
  · subst hx
    have hq : T 1014 0 i = L[i] := hA i _ (List.getElem?_eq_getElem hi)
    unfold f_M_among_opened_5_b f_M_among_opened_23 f_M_among_opened_28
    simp (disch := omega) only [I_lit, I_lt, inbT, I_ix, if_true, I_add, hq]
    rw [if_pos (by omega), List.take_succ_eq_append_getElem hi]
    by_cases h1 : t ∈ L.take i
    · rw [decide_eq_true h1, if_neg (by decide)]
      refine .some ?_
      rw [decide_eq_true (List.mem_append.mpr (Or.inl h1))]
      rfl
    · rw [decide_eq_false h1, if_pos (by decide)]
      by_cases h2 : L[i] = t
      · rw [if_pos h2]
        refine .some ?_
        rw [decide_eq_true (List.mem_append.mpr (Or.inr (by rw [h2]; exact List.mem_cons_self)))]
        rfl
      · rw [if_neg h2]
        refine .some ?_
        rw [decide_eq_false (fun q => (List.mem_append.mp q).elim h1 (fun q => h2 (List.mem_singleton.mp q).symm))]
        rfl
  · subst hx
    unfold f_M_among_opened_5_b
    simp (disch := omega) only [I_lit, I_lt, inbT, I_ix, if_true, I_add]
    rw [if_neg (by omega), List.take_length]
    refine .exW ?_
    rw [if_pos (by cases decide (t ∈ L) <;> rfl)]
    exact .some rfl
theorem T_push_opened {A : MA} {T : St} (h : RT A T) {t : Int32} : RT (uGT A (up1 (gT A) 0 (gT A 0 ++ [t]))) (up3 (up3 T 1014 0 (gT A 0).length t) 1013 0 0 (I ((gT A 0).length + 1))) := by
  obtain ⟨h1, h2, h3, h4⟩ := h.2.2.1
  have k : ∀ i x, (gT A 0 ++ [t])[i]? = some x → up3 T 1014 0 (gT A 0).length t 1014 0 i = x := by
    intro i x hx
    rw [up3_at]
    by_cases hi : i < (gT A 0).length
    · rw [List.getElem?_append_left hi] at hx
      rw [if_neg (by omega)]
      exact h2 i x hx
    · rw [List.getElem?_append_right (by omega)] at hx
      have z : i - (gT A 0).length = 0 := by
        by_cases z : i - (gT A 0).length = 0
        · exact z
        · rw [List.getElem?_eq_none (by simp; omega)] at hx
          cases hx
      rw [z] at hx
      rw [if_pos (by omega)]
      cases hx
      rfl
  refine RT_T h (fun x hx => by rw [up3_code (by omega), up3_code (by omega)]) ⟨?_, ?_, ?_, ?_⟩
  · rw [up3_at, if_pos rfl, up1_eq, List.length_append]
    rfl
  · intro i x hx
    rw [up1_eq] at hx
    rw [up3_code (by decide)]
    exact k i x hx
  · rw [up3_code (by decide), up3_code (by decide), up1_ne (by decide)]
    exact h3
  · intro i x hx
    rw [up1_ne (by decide)] at hx
    rw [up3_code (by decide), up3_code (by decide)]
    exact h4 i x hx
theorem T_among_wasUp {A : MA} {T : St} (h : RT A T) (hn : (gT A 1).length ≤ 512) {t : Int32} : sat (f_M_among_wasUp 0 (T 1015 0 0) t T) (fun r => r = b01 (decide (t ∈ gT A 1))) := by
  have hN : T 1015 0 0 = I (gT A 1).length := h.2.2.1.2.2.1
  have hA : ∀ i x, (gT A 1)[i]? = some x → T 1016 0 i = x := h.2.2.1.2.2.2
  generalize gT A 1 = L at *
  unfold f_M_among_wasUp f_M_among_wasUp_5
  rw [hN]
  refine sat_upP (fun i x => x = (b01 (decide (t ∈ L.take i)), I i)) L.length (fun i x hi hx => ?_) (fun x hx => ?_) rfl (by omega)
  · subst hx
    have hq : T 1016 0 i = L[i] := hA i _ (List.getElem?_eq_getElem hi)
    unfold f_M_among_wasUp_5_b f_M_among_wasUp_23 f_M_among_wasUp_28
    simp (disch := omega) only [I_lit, I_lt, inbT, I_ix, if_true, I_add, hq]
    rw [if_pos (by omega), List.take_succ_eq_append_getElem hi]
    by_cases h1 : t ∈ L.take i
    · rw [decide_eq_true h1, if_neg (by decide)]
      refine .some ?_
      rw [decide_eq_true (List.mem_append.mpr (Or.inl h1))]
      rfl
    · rw [decide_eq_false h1, if_pos (by decide)]
      by_cases h2 : L[i] = t
      · rw [if_pos h2]
        refine .some ?_
        rw [decide_eq_true (List.mem_append.mpr (Or.inr (by rw [h2]; exact List.mem_cons_self)))]
        rfl
      · rw [if_neg h2]
        refine .some ?_
        rw [decide_eq_false (fun q => (List.mem_append.mp q).elim h1 (fun q => h2 (List.mem_singleton.mp q).symm))]
        rfl
  · subst hx
    unfold f_M_among_wasUp_5_b
    simp (disch := omega) only [I_lit, I_lt, inbT, I_ix, if_true, I_add]
    rw [if_neg (by omega), List.take_length]
    refine .exW ?_
    rw [if_pos (by cases decide (t ∈ L) <;> rfl)]
    exact .some rfl
theorem T_push_wasUp {A : MA} {T : St} (h : RT A T) {t : Int32} : RT (uGT A (up1 (gT A) 1 (gT A 1 ++ [t]))) (up3 (up3 T 1016 0 (gT A 1).length t) 1015 0 0 (I ((gT A 1).length + 1))) := by
  obtain ⟨h1, h2, h3, h4⟩ := h.2.2.1
  have k : ∀ i x, (gT A 1 ++ [t])[i]? = some x → up3 T 1016 0 (gT A 1).length t 1016 0 i = x := by
    intro i x hx
    rw [up3_at]
    by_cases hi : i < (gT A 1).length
    · rw [List.getElem?_append_left hi] at hx
      rw [if_neg (by omega)]
      exact h4 i x hx
    · rw [List.getElem?_append_right (by omega)] at hx
      have z : i - (gT A 1).length = 0 := by
        by_cases z : i - (gT A 1).length = 0
        · exact z
        · rw [List.getElem?_eq_none (by simp; omega)] at hx
          cases hx
      rw [z] at hx
      rw [if_pos (by omega)]
      cases hx
      rfl
  refine RT_T h (fun x hx => by rw [up3_code (by omega), up3_code (by omega)]) ⟨?_, ?_, ?_, ?_⟩
  · rw [up3_code (by decide), up3_code (by decide), up1_ne (by decide)]
    exact h1
  · intro i x hx
    rw [up1_ne (by decide)] at hx
    rw [up3_code (by decide), up3_code (by decide)]
    exact h2 i x hx
  · rw [up3_at, if_pos rfl, up1_eq, List.length_append]
    rfl
  · intro i x hx
    rw [up1_eq] at hx
    rw [up3_code (by decide)]
    exact k i x hx
theorem T_seal {A : MA} {T : St} (h : RT A T) {c s t : Int32} : f_M_seal 0 c s t T = kSeal (gI A 4) c s t := by
  unfold f_M_seal kSeal
  rw [rt_key h]
theorem T_tagFor {A : MA} {T : St} (h : RT A T) {c : Int32} : f_M_tagFor 0 c T = kTag (gI A 4) c := by
  unfold f_M_tagFor kTag
  rw [rt_key h]
theorem T_open {A : MA} {T : St} (h : RT A T) (hb : bP A) (hn : (gT A 0).length < 512) {t : Int32} : sat (f_M_open 0 t T) (fun x => x.1 = (if aI A 0 0 ≠ 0 ∨ t = 0 ∨ t ∈ gT A 0 then 0 else 1) ∧ RT (if aI A 0 0 ≠ 0 ∨ t = 0 ∨ t ∈ gT A 0 then A else m_start A t) x.2) := by
  unfold f_M_open f_M_open_28
  rw [if_pos (by decide), show ix (0 : Int32) = 0 by decide, rt_state h (by decide)]
  by_cases h0 : aI A 0 0 = 0
  · rw [if_pos h0]
    by_cases ht : t = 0
    · rw [if_pos ht]
      refine .some ⟨?_, ?_⟩
      · rw [if_pos (Or.inr (Or.inl ht))]
      · rw [if_pos (Or.inr (Or.inl ht))]; exact h
    · rw [if_neg ht]
      refine .bd (T_among_opened h (by omega)) (fun r hr => ?_)
      subst hr
      by_cases hm : t ∈ gT A 0
      · rw [decide_eq_true hm, if_neg (by decide)]
        refine .some ⟨?_, ?_⟩
        · rw [if_pos (Or.inr (Or.inr hm))]
        · rw [if_pos (Or.inr (Or.inr hm))]; exact h
      · have hN : T cM_opens 0 0 = I (gT A 0).length := h.2.2.1.1
        have hc : ¬ (aI A 0 0 ≠ 0 ∨ t = 0 ∨ t ∈ gT A 0) := fun z => z.elim (fun z => z h0) (fun z => z.elim ht hm)
        rw [decide_eq_false hm, if_pos (by decide), hN]
        simp only [hc, if_false]
        simp (disch := omega) only [inbT, I_ix, if_true, I_lit, I_add]
        refine .bd (T_post (rs_own (rs_state (T_push_opened h))) hb (e := 0) (p := 0) (by decide) (by decide)) (fun T' h' => .some ⟨rfl, ?_⟩)
        dsimp only
        have e : T' cM_now 0 0 = I (gN A 0) := by rw [rt_now h', m_post_gN]
        rw [e, I_add]
        have := rs_due (rs_tries h' (e := 0) (v := 1) (w := I 1) rfl) (e := 0) (v := gN A 0 + 3) (w := I (gN A 0 + 3)) rfl
        unfold m_start m_tries
        rw [m_post_gN]
        exact this
  · rw [if_neg h0]
    refine .some ⟨?_, ?_⟩
    · rw [if_pos (Or.inl h0)]
    · rw [if_pos (Or.inl h0)]; exact h
theorem T_cookie {A : MA} {T : St} (h : RT A T) (hb : bP A) {e p : Nat} (he : e < 2) (hp : p < 2) {t : Int32} (ht : t = aI A e 2) : sat (f_M_sendCookie 0 (I e) (I p) t 2 0 T) (fun T' => RT (m_post A (2 * e + p) (m_echoP A e)) T') := by
  subst ht
  unfold f_M_sendCookie
  rw [T_full h hb he hp, bdS]
  rw [if_pos (by decide), show ix (0 : Int32) = 0 by decide, rt_cookie h (by decide)]
  refine T_pm h hb he hp some (c := gI A 1) (d := gI A 2) (x := gI A 3) (fun T' h' hc => ?_) (fun T' hc => ?_) (fun T' h' => .some h')
  · have k1 := rt_cookie h' (k := 1) (by decide)
    have k2 := rt_cookie h' (k := 2) (by decide)
    have k3 := rt_cookie h' (k := 3) (by decide)
    rw [m_post_gI] at k1 k2 k3
    rw [if_neg hc, if_pos rfl, if_pos (by decide), if_pos (by decide), if_pos (by decide)]
    rw [show ix (1 : Int32) = 1 by decide, show ix (2 : Int32) = 2 by decide, show ix (3 : Int32) = 3 by decide, k1, k2, k3]
    simp only [I_lit, I_mul, I_add]
  · rw [if_pos hc, if_neg (by decide)]
theorem T_init {A : MA} {T : St} (h : RT A T) (hb : bP A) {p : Nat} (hp : p < 2) {t : Int32} : sat (f_M_init 0 (I p) t T) (fun T' => RT (m_init A p t) T') := by
  unfold f_M_init
  have hf := T_full h hb (e := 1) (p := p) (by decide) hp
  rw [show (1 : Int32) = I 1 from rfl, hf, bdS, T_tagFor h]
  refine T_pm h hb (e := 1) (by decide) hp some (c := kTag (gI A 4) t) (d := I (gN A 0)) (x := kSeal (gI A 4) t (kTag (gI A 4) t) (I (gN A 0))) (fun T' h' hc => ?_) (fun T' hc => ?_) (fun T' h' => .some h')
  · rw [if_neg hc, if_pos rfl, T_seal h', rt_now h', m_post_gI, m_post_gN]
    simp only [I_lit, I_add]
  · rw [if_pos hc, if_neg (by decide)]
theorem T_iack {A : MA} {T : St} (h : RT A T) (hb : bP A) {p : Nat} (hp : p < 2) {q : Nat → Int32} (hq : ∀ j, j < 8 → T 1007 0 j = q j) : sat (f_M_initAck 0 (I p) T) (fun T' => RT (m_iack A p q) T') := by
  unfold f_M_initAck f_M_initAck_14
  rw [if_pos (by decide), if_pos (by decide), show ix (0 : Int32) = 0 by decide, show ix (2 : Int32) = 2 by decide, hq 2 (by decide)]
  have h0 := rs_other h (e := 0) (v := q 2)
  refine sat_upP (fun i x => x.1 = I i ∧ RT (uGI (uGN (sI A 0 2 (q 2)) (gN A)) (fun k => if k < i then q (3 + k) else gI A k)) x.2 ∧ ∀ j, j < 8 → x.2 1007 0 j = q j) 4 (fun i x hi hx => ?_) (fun x hx => ?_) ⟨rfl, ?_, fun j hj => ?_⟩ (by decide)
  · obtain ⟨c, T1⟩ := x
    obtain ⟨rfl, h1, h2⟩ := hx
    replace h1 : RT _ T1 := h1
    replace h2 : ∀ j, j < 8 → T1 1007 0 j = q j := h2
    unfold f_M_initAck_14_b
    have h3 := h2 (3 + i) (by omega)
    simp (disch := omega) only [I_lit, I_lt, I_add, inbT, I_ix, if_true, h3]
    rw [if_pos (by omega)]
    refine .some ⟨rfl, ?_, fun j hj => ?_⟩
    · show RT (uGI (uGN (uGI (uGN (sI A 0 2 (q 2)) (gN A)) (fun k => if k < i then q (3 + k) else gI A k)) (gN A)) (fun k => if k < i + 1 then q (3 + k) else gI A k)) (up3 T1 1012 0 i (q (3 + i)))
      refine RT_G h1 (fun x a b c d e => by rw [up3_code (show x ≠ 1012 from e)]) ?_
      obtain ⟨g1, g2, g3, g4, g5⟩ := h1.2.1
      refine ⟨?_, ?_, ?_, ?_, fun k hk => ?_⟩
      · rw [up3_code (by decide)]; exact g1
      · rw [up3_code (by decide)]; exact g2
      · rw [up3_code (by decide)]
        dsimp only
        rw [if_neg (by omega)]
        have : T1 1003 0 0 = if 4 < i then q (3 + 4) else gI A 4 := g3
        rw [if_neg (by omega)] at this
        exact this
      · rw [up3_code (by decide)]; exact g4
      · show up3 T1 1012 0 i (q (3 + i)) 1012 0 k = _
        rw [up3_at]
        dsimp only
        by_cases hk2 : k = i
        · rw [if_pos hk2, if_pos (by omega), hk2]
        · rw [if_neg hk2]
          have : T1 1012 0 k = if k < i then q (3 + k) else gI A k := g5 k hk
          rw [this]
          by_cases hk3 : k < i
          · rw [if_pos hk3, if_pos (by omega)]
          · rw [if_neg hk3, if_neg (by omega)]
    · show up3 T1 1012 0 i (q (3 + i)) 1007 0 j = _
      rw [up3_code (by decide)]
      exact h2 j hj
  · obtain ⟨c, T1⟩ := x
    obtain ⟨rfl, h1, h2⟩ := hx
    replace h1 : RT _ T1 := h1
    unfold f_M_initAck_14_b
    dsimp only
    rw [if_neg (by decide)]
    rw [if_pos (by decide), if_pos (by decide), show ix (0 : Int32) = 0 by decide]
    have e1 : T1 cM_other 0 0 = q 2 := by
      rw [rt_other h1 (by decide)]
      show up2 (aI A) 0 2 (q 2) 0 2 = q 2
      exact up2_eq
    have h3 := rs_state h1 (e := 0) (v := 2)
    refine .exW (.bd (T_cookie h3 hb (e := 0) (p := p) (by decide) hp ?_) (fun T' h' => .some ?_))
    · rw [e1]
      show q 2 = up2 (up2 (aI A) 0 2 (q 2)) 0 0 2 0 2
      rw [up2_ne2 (by decide), up2_eq]
    · have e : T' cM_now 0 0 = I (gN A 0) := by rw [rt_now h', m_post_gN]
      rw [e, I_lit 3, I_add]
      have := rs_due (rs_tries h' (e := 0) (v := 1) (w := I 1) rfl) (e := 0) (v := gN A 0 + 3) (w := I (gN A 0 + 3)) rfl
      unfold m_iack m_tries
      dsimp only
      rw [m_post_gN]
      rw [Nat.mul_zero, Nat.zero_add] at this
      exact this
  · have : (fun k => if k < 0 then q (3 + k) else gI A k) = gI A := by
      funext k
      rw [if_neg (by omega)]
    rw [this]
    exact h0
  · show up3 T 1010 0 0 (q 2) 1007 0 j = _
    rw [up3_code (by decide)]
    exact hq j hj
