/-! Rows of packets in the reference. -/
def zf (T : St) (x b : Nat) : Nat → St
  | 0 => T
  | k + 1 => up3 (zf T x b k) x 0 (b + k) 0
theorem zf_code {T : St} {x b : Nat} {y : Nat} (h : y ≠ x) : ∀ k, zf T x b k y = T y
  | 0 => rfl
  | k + 1 => by rw [zf, up3_code h, zf_code h k]
theorem zf_at {T : St} {x b : Nat} {j : Nat} : ∀ k, zf T x b k x 0 j = if b ≤ j ∧ j < b + k then 0 else T x 0 j
  | 0 => by rw [zf, if_neg (by omega)]
  | k + 1 => by
    rw [zf, up3_at, zf_at k]
    by_cases h : j = b + k
    · rw [if_pos h, if_pos (by omega)]
    · rw [if_neg h]
      by_cases h2 : b ≤ j ∧ j < b + k
      · rw [if_pos h2, if_pos (by omega)]
      · rw [if_neg h2, if_neg (by omega)]
theorem rtP_push {A : MA} {T T' : St} (h : RT A T) {r : Nat} (hr : r < 4) (hb : ∀ r, r < 4 → (aP A r).length ≤ 8) (hl : (aP A r).length < 8) {q : Pkt} (h1 : T' 1005 0 r = I ((aP A r).length + 1)) (h2 : ∀ r', r' ≠ r → T' 1005 0 r' = T 1005 0 r') (h3 : ∀ j, j < 64 * r + 8 * (aP A r).length ∨ 64 * r + 8 * (aP A r).length + 8 ≤ j → T' 1006 0 j = T 1006 0 j) (h4 : ∀ j, j < 8 → T' 1006 0 (64 * r + 8 * (aP A r).length + j) = q.1 j) : rtP (up1 (aP A) r (aP A r ++ [q])) T' := by
  intro r' hr'
  by_cases hc : r' = r
  · subst hc
    rw [up1_eq]
    refine ⟨by rw [h1, List.length_append]; rfl, fun i p hp j hj => ?_⟩
    by_cases hi : i < (aP A r').length
    · rw [List.getElem?_append_left hi] at hp
      rw [h3 _ (by omega)]
      exact rt_pk h hr hp hj
    · rw [List.getElem?_append_right (by omega)] at hp
      have : i - (aP A r').length = 0 := by
        by_cases z : i - (aP A r').length = 0
        · exact z
        · rw [List.getElem?_eq_none (by simp; omega)] at hp
          cases hp
      rw [this] at hp
      have e : i = (aP A r').length := by omega
      rw [e, h4 j hj]
      cases hp
      rfl
  · rw [up1_ne hc]
    refine ⟨by rw [h2 _ hc]; exact rt_rows h hr', fun i p hp j hj => ?_⟩
    have hi : i < (aP A r').length := (List.getElem?_eq_some_iff.mp hp).1
    have := hb r' hr'
    rw [h3 _ (by omega)]
    exact rt_pk h hr' hp hj
theorem T_post {A : MA} {T : St} (h : RT A T) (hb : ∀ r, r < 4 → (aP A r).length ≤ 8) {e p : Nat} (he : e < 2) (hp : p < 2) {t k a b : Int32} : sat (f_M_post 0 (I e) (I p) t k a b T) (fun T' => RT (m_post A (2 * e + p) (pkt t k a b 0 0 0)) T') := by
  have hr : 2 * e + p < 4 := by omega
  have hl := hb _ hr
  unfold f_M_post m_post
  simp (disch := omega) only [I_lit, I_mul, I_add, I_ix, inbT, rt_rows h hr, I_eq, if_true]
  generalize hR : 2 * e + p = r at *
  by_cases hc : (aP A r).length = 8
  · rw [if_pos hc, if_pos hc]
    exact .some h
  · rw [if_neg hc, if_neg hc]
    have hl' : (aP A r).length < 8 := by omega
    generalize hL : (aP A r).length = l at *
    refine sat_up (fun i => (I (4 + i), zf (up3 (up3 (up3 (up3 T cM_packet 0 (64 * r + 8 * l) t) cM_packet 0 (64 * r + 8 * l + 1) k) cM_packet 0 (64 * r + 8 * l + 2) a) cM_packet 0 (64 * r + 8 * l + 3) b) 1006 (64 * r + 8 * l + 4) i)) 4 (fun i hi => ?_) ?_ (by decide)
    · unfold f_M_post_82_b
      simp (disch := omega) only [I_lit, I_lt, I_add, inbT, I_ix]
      rw [if_pos (by omega)]
      simp only [if_true, zf]
      congr 4
      omega
    · unfold f_M_post_82_b
      simp (disch := omega) only [I_lit, I_lt, I_add, inbT, I_ix]
      rw [if_neg (by omega)]
      simp only [if_true]
      refine .exW (.some ?_)
      show RT (uP A _) _
      have e1 : zf (up3 (up3 (up3 (up3 T cM_packet 0 (64 * r + 8 * l) t) cM_packet 0 (64 * r + 8 * l + 1) k) cM_packet 0 (64 * r + 8 * l + 2) a) cM_packet 0 (64 * r + 8 * l + 3) b) 1006 (64 * r + 8 * l + 4) 4 cM_rows 0 r = I l := by
        rw [zf_code (by decide), up3_code (by decide), up3_code (by decide), up3_code (by decide), up3_code (by decide), rt_rows h hr, hL]
      rw [e1, I_add]
      refine RT_P h (fun x h1 h2 => ?_) (rtP_push h hr hb (by omega) ?_ (fun r' hr' => ?_) (fun j hj => ?_) (fun j hj => ?_))
      · rw [up3_code h1, zf_code h2, up3_code h2, up3_code h2, up3_code h2, up3_code h2]
      · rw [up3_at, if_pos rfl, hL]
      · rw [up3_at, if_neg hr', zf_code (by decide), up3_code (by decide), up3_code (by decide), up3_code (by decide), up3_code (by decide)]
      · rw [hL] at hj
        rw [up3_code (by decide), zf_at, if_neg (by omega), up3_at, if_neg (by omega), up3_at, if_neg (by omega), up3_at, if_neg (by omega), up3_at, if_neg (by omega)]
      · rw [hL, up3_code (by decide), zf_at]
        by_cases h4 : 4 ≤ j
        · rw [if_pos (by omega)]
          have : j = 4 ∨ j = 5 ∨ j = 6 ∨ j = 7 := by omega
          rcases this with rfl | rfl | rfl | rfl <;> rfl
        · rw [if_neg (by omega), up3_at, up3_at, up3_at, up3_at]
          have : j = 0 ∨ j = 1 ∨ j = 2 ∨ j = 3 := by omega
          rcases this with rfl | rfl | rfl | rfl
          · rw [if_neg (by omega), if_neg (by omega), if_neg (by omega), if_pos (by omega)]; rfl
          · rw [if_neg (by omega), if_neg (by omega), if_pos rfl]; rfl
          · rw [if_neg (by omega), if_pos rfl]; rfl
          · rw [if_pos rfl]; rfl
theorem T_full {A : MA} {T : St} (h : RT A T) (hb : ∀ r, r < 4 → (aP A r).length ≤ 8) {e p : Nat} (he : e < 2) (hp : p < 2) : f_M_full 0 (I e) (I p) T = some (if (aP A (2 * e + p)).length = 8 then 1 else 0) := by
  have hr : 2 * e + p < 4 := by omega
  have hl := hb _ hr
  unfold f_M_full
  simp (disch := omega) only [I_lit, I_mul, I_add, I_ix, inbT, rt_rows h hr, I_eq, if_true]
  split <;> rfl
theorem T_more {A : MA} {T : St} {r : Nat} (hr : r < 4) {q q' : Pkt} (h : RT (uP A (up1 (aP A) r (aP A r ++ [q]))) T) (hb : ∀ r, r < 4 → (aP A r).length ≤ 8) (hl : (aP A r).length < 8) {c d x f : Int32} (h0 : ∀ j, j < 4 → q'.1 j = q.1 j) (h4 : q'.1 4 = c) (h5 : q'.1 5 = d) (h6 : q'.1 6 = x) (h7 : q'.1 7 = f) : sat (f_M_more 0 (I r) c d x f T) (fun T' => RT (uP A (up1 (aP A) r (aP A r ++ [q']))) T') := by
  have hR : T cM_rows 0 r = I ((aP A r).length + 1) := by
    rw [rt_rows h hr]
    show I (up1 (aP A) r (aP A r ++ [q]) r).length = _
    rw [up1_eq, List.length_append]
    rfl
  have hP : ∀ j, j < 8 → T cM_packet 0 (64 * r + 8 * (aP A r).length + j) = q.1 j := fun j hj => rt_pk h hr (i := (aP A r).length) (q := q) (by
    show (up1 (aP A) r (aP A r ++ [q]) r)[(aP A r).length]? = _
    rw [up1_eq, List.getElem?_append_right (Nat.le_refl _), Nat.sub_self]
    rfl) hj
  unfold f_M_more
  simp (disch := omega) only [I_lit, I_mul, I_ix, inbT, hR, if_true, I_sub, Nat.add_sub_cancel, I_add]
  refine .some ?_
  generalize hL : (aP A r).length = l at *
  have hN : ∀ j, j < 64 * r + 8 * l + 4 ∨ 64 * r + 8 * l + 8 ≤ j → up3 (up3 (up3 (up3 T cM_packet 0 (64 * r + 8 * l + 4) c) cM_packet 0 (64 * r + 8 * l + 5) d) cM_packet 0 (64 * r + 8 * l + 6) x) cM_packet 0 (64 * r + 8 * l + 7) f 1006 0 j = T 1006 0 j := fun j hj => by
    rw [up3_at, if_neg (by omega), up3_at, if_neg (by omega), up3_at, if_neg (by omega), up3_at, if_neg (by omega)]
  show RT (uP (uP A (up1 (aP A) r (aP A r ++ [q]))) _) _
  refine RT_P h (fun y h1 h2 => by rw [up3_code h2, up3_code h2, up3_code h2, up3_code h2]) (fun r' hr' => ?_)
  by_cases hc : r' = r
  · subst hc
    rw [up1_eq]
    refine ⟨by rw [up3_code (by decide), up3_code (by decide), up3_code (by decide), up3_code (by decide), List.length_append, hL]; exact hR, fun i p hp j hj => ?_⟩
    by_cases hi : i < l
    · rw [List.getElem?_append_left (by omega)] at hp
      rw [hN _ (by omega)]
      refine rt_pk h hr (q := p) (i := i) ?_ hj
      show (up1 (aP A) r' (aP A r' ++ [q]) r')[i]? = _
      rw [up1_eq, List.getElem?_append_left (by omega)]
      exact hp
    · rw [List.getElem?_append_right (by omega)] at hp
      have : i - (aP A r').length = 0 := by
        by_cases z : i - (aP A r').length = 0
        · exact z
        · rw [List.getElem?_eq_none (by simp; omega)] at hp
          cases hp
      rw [this] at hp
      have e : i = l := by omega
      subst e
      cases hp
      by_cases hj4 : j < 4
      · rw [hN _ (by omega), h0 j hj4]
        exact hP j hj
      · rw [up3_at, up3_at, up3_at, up3_at]
        have : j = 4 ∨ j = 5 ∨ j = 6 ∨ j = 7 := by omega
        rcases this with rfl | rfl | rfl | rfl
        · rw [if_neg (by omega), if_neg (by omega), if_neg (by omega), if_pos (by omega), h4]
        · rw [if_neg (by omega), if_neg (by omega), if_pos (by omega), h5]
        · rw [if_neg (by omega), if_pos (by omega), h6]
        · rw [if_pos (by omega), h7]
  · have := h.2.2.2.1 r' hr'
    rw [show aP (uP A (up1 (aP A) r (aP A r ++ [q]))) r' = aP A r' from up1_ne hc] at this
    rw [up1_ne hc]
    refine ⟨by rw [up3_code (by decide), up3_code (by decide), up3_code (by decide), up3_code (by decide)]; exact this.1, fun i p hp j hj => ?_⟩
    have hi : i < (aP A r').length := (List.getElem?_eq_some_iff.mp hp).1
    have := hb r' hr'
    rw [hN _ (by omega)]
    exact (h.2.2.2.1 r' hr').2 i p (by
      show (up1 (aP A) r (aP A r ++ [q]) r')[i]? = _
      rw [up1_ne hc]
      exact hp) j hj
/-- post, and more behind it where it wasn't lost -/
theorem T_pm {A : MA} {T : St} (h : RT A T) (hb : ∀ r, r < 4 → (aP A r).length ≤ 8) {e p : Nat} (he : e < 2) (hp : p < 2) {t k a b c d x : Int32} {ρ : Type} {P : ρ → Prop} {f : St → Option ρ} (g : St → Option ρ) (hf : ∀ T', RT (m_post A (2 * e + p) (pkt t k a b 0 0 0)) T' → (aP A (2 * e + p)).length ≠ 8 → f T' = bd (f_M_more 0 (I (2 * e + p)) c d x 0 T') g) (hf2 : ∀ T', (aP A (2 * e + p)).length = 8 → f T' = g T') (hg : ∀ T', RT (m_post A (2 * e + p) (pkt t k a b c d x)) T' → sat (g T') P) : sat (bd (f_M_post 0 (I e) (I p) t k a b T) f) P := by
  refine .bd (T_post h hb he hp) (fun T' h' => ?_)
  have hr : 2 * e + p < 4 := by omega
  by_cases hc : (aP A (2 * e + p)).length = 8
  · rw [hf2 T' hc]
    refine hg T' ?_
    unfold m_post at h' ⊢
    rw [if_pos hc] at h' ⊢
    exact h'
  · rw [hf T' h' hc]
    unfold m_post at h' hg
    rw [if_neg hc] at h' hg
    have := hb _ hr
    refine .bd (T_more hr (q' := pkt t k a b c d x) h' hb (by omega) (fun j hj => ?_) rfl rfl rfl rfl) (fun T2 h2 => hg T2 h2)
    have : j = 0 ∨ j = 1 ∨ j = 2 ∨ j = 3 := by omega
    rcases this with rfl | rfl | rfl | rfl <;> rfl
