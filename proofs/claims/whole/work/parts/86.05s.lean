theorem m_post_sN (A : MA) (r e i v : Nat) (q : Pkt) : sN (m_post A r q) e i v = m_post (sN A e i v) r q := by
  unfold m_post
  by_cases h : (aP A r).length = 8
  · rw [if_pos h, if_pos (show (aP (sN A e i v) r).length = 8 from h)]
  · rw [if_neg h, if_neg (show ¬ (aP (sN A e i v) r).length = 8 from h)]
theorem m_post_aP {A : MA} {r r' : Nat} {q : Pkt} (h : r' ≠ r) : aP (m_post A r q) r' = aP A r' := by
  unfold m_post
  split
  · rfl
  · exact up1_ne h
theorem S_tagadd {L : List Int32} {i : Nat} {S : St} (h : tgS L i S) (hl : L.length < 512) {t : Int32} : sat (f_TagList_add i t S) (fun x => (t ∈ L ∧ x = (0, S)) ∨ (t ∉ L ∧ x = (1, up3 (up3 S 52 i L.length t) 53 i 0 (I (L.length + 1))))) := by
  obtain ⟨h1, h2⟩ := h
  have h1' : S cTagList_count i 0 = I L.length := h1
  unfold f_TagList_add f_TagList_add_2
  refine sat_iter (fun j x => ∃ k, x = I k ∧ k + j = L.length ∧ t ∉ L.take k) (P := fun x => (t ∈ L ∧ x = (0, S)) ∨ (t ∉ L ∧ x = (1, up3 (up3 S 52 i L.length t) 53 i 0 (I (L.length + 1))))) ?_ (i := L.length) (by omega) ⟨0, rfl, by omega, by simp⟩
  rintro j x ⟨k, rfl, hk, ht⟩
  unfold f_TagList_add_2_b
  rw [h1']
  cases j with
  | zero =>
    rw [if_neg (fun z => by have := (I_lt (by omega) (by omega)).mp z; omega), if_pos (show I L.length < 512 from (I_lt (b := 512) (by omega) (by decide)).mpr hl), inbT hl (by decide), if_pos rfl, I_ix (by omega), show (1 : Int32) = I 1 from rfl, I_add]
    have : L.take k = L := List.take_of_length_le (by omega)
    rw [this] at ht
    exact .exW (.some (Or.inr ⟨ht, rfl⟩))
  | succ j =>
    have hki : k < L.length := by omega
    have hq : S cTagList_tags i k = L[k] := h2 k _ (List.getElem?_eq_getElem hki)
    rw [if_pos ((I_lt (by omega) (by omega)).mpr hki), inbT (show k < 512 by omega) (by decide), if_pos rfl, I_ix (by omega), hq]
    by_cases hz : L[k] = t
    · rw [if_pos hz]
      exact .exW (.some (Or.inl ⟨by rw [← hz]; exact List.getElem_mem hki, rfl⟩))
    · rw [if_neg hz]
      refine .some ⟨j, by omega, k + 1, I_add k 1, by omega, ?_⟩
      rw [List.take_succ_eq_append_getElem hki]
      intro z
      rcases List.mem_append.mp z with z | z
      · exact ht z
      · exact hz (List.mem_singleton.mp z).symm
theorem tgS_push {L : List Int32} {i : Nat} {S : St} (h : tgS L i S) {t : Int32} : tgS (L ++ [t]) i (up3 (up3 S 52 i L.length t) 53 i 0 (I (L.length + 1))) := by
  obtain ⟨h1, h2⟩ := h
  refine ⟨by rw [up3_at, if_pos rfl, List.length_append]; rfl, fun k x hx => ?_⟩
  rw [up3_code (by decide), up3_at]
  by_cases hk : k < L.length
  · rw [List.getElem?_append_left hk] at hx
    rw [if_neg (by omega)]
    exact h2 k x hx
  · rw [List.getElem?_append_right (by omega)] at hx
    have z : k - L.length = 0 := by
      by_cases z : k - L.length = 0
      · exact z
      · rw [List.getElem?_eq_none (by simp; omega)] at hx
        cases hx
    rw [z] at hx
    rw [if_pos (by omega)]
    cases hx
    rfl
theorem RS_tag {A : MA} {S : St} (h : RS A S) {i : Nat} (hi : i < 2) {t : Int32} : RS (uGT A (up1 (gT A) i (gT A i ++ [t]))) (up3 (up3 S 52 i (gT A i).length t) 53 i 0 (I ((gT A i).length + 1))) := by
  obtain ⟨⟨g1, g2⟩, ⟨t1, t2⟩, r0, r1⟩ := h
  have c : ∀ x k, x ≠ 52 → x ≠ 53 → up3 (up3 S 52 i (gT A i).length t) 53 i 0 (I ((gT A i).length + 1)) x k = S x k := fun x k a b => by rw [up3_code b, up3_code a]
  have ce : ∀ e, e < 2 → RSe A e S → RSe (uGT A (up1 (gT A) i (gT A i ++ [t]))) e (up3 (up3 S 52 i (gT A i).length t) 53 i 0 (I ((gT A i).length + 1))) := by
    intro e he hr
    have := RSe_cg hr he (S' := up3 (up3 S 52 i (gT A i).length t) 53 i 0 (I ((gT A i).length + 1))) (fun x k hx => c x k (fun z => by subst z; rw [ow_g (by decide)] at hx; omega) (fun z => by subst z; rw [ow_g (by decide)] at hx; omega))
    exact this
  refine ⟨⟨by rw [c 1 0 (by decide) (by decide)]; exact g1, by rw [c 2 0 (by decide) (by decide)]; exact g2⟩, ⟨?_, ?_⟩, ce 0 (by decide) r0, ce 1 (by decide) r1⟩
  · have : i = 0 ∨ i = 1 := by omega
    rcases this with rfl | rfl
    · have := tgS_push t1 (t := t)
      exact this
    · show tgS (up1 (gT A) 1 (gT A 1 ++ [t]) 0) 0 _
      rw [up1_ne (by decide)]
      unfold tgS at *
      rw [up3_ob (by decide), up3_ob (by decide), up3_ob (by decide), up3_ob (by decide)]
      exact t1
  · have : i = 0 ∨ i = 1 := by omega
    rcases this with rfl | rfl
    · show tgS (up1 (gT A) 0 (gT A 0 ++ [t]) 1) 1 _
      rw [up1_ne (by decide)]
      unfold tgS at *
      rw [up3_ob (by decide), up3_ob (by decide), up3_ob (by decide), up3_ob (by decide)]
      exact t2
    · have := tgS_push t2 (t := t)
      exact this
theorem fr_start {A : MA} {t : Int32} {n : Nat} : frE 0 A (sN (sN (sI (sI A 0 0 1) 0 1 t) 0 0 1) 0 1 n) := .trans (.trans (.trans fr_sI fr_sI) fr_sN) fr_sN
theorem S_open {A : MA} {S : St} (h : RS A S) (hb : bP A) (hn : (gT A 0).length < 512) {t : Int32} : sat (f_L_open 0 t S) (fun x => x.1 = (if aI A 0 0 ≠ 0 ∨ t = 0 ∨ t ∈ gT A 0 then 0 else 1) ∧ RS (if aI A 0 0 ≠ 0 ∨ t = 0 ∨ t ∈ gT A 0 then A else m_start A t) x.2) := by
  unfold f_L_open f_L_open_29
  have hst : S cEnd_state 0 0 = aI A 0 0 := sr_state (h.e (by decide))
  rw [if_pos (by decide), show ix (0 : Int32) = 0 by decide, hst]
  by_cases h0 : aI A 0 0 = 0
  · rw [if_pos h0]
    by_cases ht : t = 0
    · rw [if_pos ht]
      refine .some ⟨?_, ?_⟩
      · rw [if_pos (Or.inr (Or.inl ht))]
      · rw [if_pos (Or.inr (Or.inl ht))]; exact h
    · rw [if_neg ht]
      refine .bd2 (S_tagadd h.2.1.1 hn) (fun r S1 hr => ?_)
      rcases hr with ⟨hm, hx⟩ | ⟨hm, hx⟩
      · cases hx
        rw [if_pos rfl]
        refine .some ⟨?_, ?_⟩
        · rw [if_pos (Or.inr (Or.inr hm))]
        · rw [if_pos (Or.inr (Or.inr hm))]; exact h
      · cases hx
        have hc : ¬ (aI A 0 0 ≠ 0 ∨ t = 0 ∨ t ∈ gT A 0) := fun z => z.elim (fun z => z h0) (fun z => z.elim ht hm)
        simp only [hc, if_false]
        rw [if_neg (by decide)]
        have h1 := RS_tag h (i := 0) (by decide) (t := t)
        have hnow : (up3 (up3 S 52 0 (gT A 0).length t) 53 0 0 (I ((gT A 0).length + 1))) cL_now 0 0 = I (gN A 0) := h1.1.2
        rw [hnow]
        refine .bd (S_start h1.2.2.1 (hb 0 (by decide))) (fun S2 h2 => .some ⟨rfl, ?_⟩)
        unfold m_start m_tries
        rw [m_post_gN, m_post_sN, m_post_sN]
        refine RS_up h1 (by decide) h2 (.trans fr_start fr_post) (fun r hr => ?_) ?_ ?_
        · rw [m_post_aP (by omega)]
        · rw [m_post_gI]
        · rw [m_post_gT]
  · rw [if_neg h0]
    refine .some ⟨?_, ?_⟩
    · rw [if_pos (Or.inl h0)]
    · rw [if_pos (Or.inl h0)]; exact h
