theorem up3_id {S : St} {x i j : Nat} {v : Int32} (h : S x i j = v) : up3 S x i j v = S := by
  funext x' i' j'
  by_cases hx : x' = x
  · subst hx
    rw [up3_same]
    split
    · rename_i hc
      rw [hc.1, hc.2, h]
    · rfl
  · rw [up3_code hx]
theorem sN_same (A : MA) (e i : Nat) : sN A e i (aN A e i) = A := by
  obtain ⟨a, b, r⟩ := A
  show (a, up2 b e i (b e i), r) = _
  congr 2
  funext x y
  unfold up2
  split
  · rename_i h; obtain ⟨rfl, rfl⟩ := h; rfl
  · rfl
theorem RT_given {A : MA} {T : St} (h : RT A T) {e : Nat} (he : e < 2) {b : Nat} (hO : rtO (aN (sN A e 4 b)) (aO A) T) : RT (sN A e 4 b) (up3 T 1032 0 e (I b)) := by
  have h1 := RT_gg h (e := e) (a := aN A e 3) (b := b) rfl rfl (by rw [sN_same]; exact hO)
  rw [sN_same, up3_id (rt_gone h he)] at h1
  exact h1
theorem RT_gone {A : MA} {T : St} (h : RT A T) {e : Nat} (he : e < 2) {a : Nat} (hO : rtO (aN (sN A e 3 a)) (aO A) T) : RT (sN A e 3 a) (up3 T 1031 0 e (I a)) := by
  have z : sN (sN A e 3 a) e 4 (aN A e 4) = sN A e 3 a := by
    have : aN (sN A e 3 a) e 4 = aN A e 4 := up2_ne2 (by decide)
    rw [← this, sN_same]
  have h1 := RT_gg h (e := e) (a := a) (b := aN A e 4) rfl rfl (by rw [z]; exact hO)
  rw [z, up3_id (by rw [up3_code (by decide)]; exact rt_given h he)] at h1
  exact h1
def keepC (T T' : St) (c : Nat) : St := fun x => if x = c then T x else T' x
theorem keepC_ne {T T' : St} {c x : Nat} (h : x ≠ c) : keepC T T' c x = T' x := if_neg h
theorem keepC_eq {T T' : St} {c : Nat} : keepC T T' c c = T c := if_pos rfl
theorem RT_addW {A : MA} {T T' : St} (h : RT A T) {e : Nat} (he : e < 2) (hl : aN A e 4 + 1 ≤ aN A e 3 + 24) {w : WC} (c : ∀ x, x ≠ 1032 → (x < 1034 ∨ 1040 < x) → T' x = T x) (c1 : T' 1032 = up3 T 1032 0 e (I (aN A e 4 + 1)) 1032) (c2 : ∀ x, 1034 ≤ x → x ≤ 1040 → ∀ j, j ≠ 32 * e + (aN A e 4 + 1) % 32 → T' x 0 j = T x 0 j) (ho : oT (w, 1, 0, 0) T' (32 * e + (aN A e 4 + 1) % 32)) : RT (m_addW A e w) T' := by
  have e1 : T' = up3 (keepC T T' 1032) 1032 0 e (I (aN A e 4 + 1)) := by
    funext x
    by_cases hx : x = 1032
    · subst hx
      rw [c1]
      funext i j
      rw [up3_same, up3_same, keepC_eq]
    · rw [up3_code hx, keepC_ne hx]
  have cells : ∀ e' n', e' < 2 → (e' = e → n' ≤ aN A e 4) → aN A e' 3 < n' → n' ≤ aN A e' 4 → oT (aO A e' n') (keepC T T' 1032) (32 * e' + n' % 32) := by
    intro e' n' he' hn h3 h4
    have hj : 32 * e' + n' % 32 ≠ 32 * e + (aN A e 4 + 1) % 32 := by
      intro z
      have : e' = e := by omega
      subst this
      have := hn rfl
      omega
    obtain ⟨o1, o2, o3, o4, o5, o6, o7⟩ := rt_o h he' h3 h4
    exact ⟨by rw [keepC_ne (by decide), c2 _ (by decide) (by decide) _ hj]; exact o1, by rw [keepC_ne (by decide), c2 _ (by decide) (by decide) _ hj]; exact o2, by rw [keepC_ne (by decide), c2 _ (by decide) (by decide) _ hj]; exact o3, by rw [keepC_ne (by decide), c2 _ (by decide) (by decide) _ hj]; exact o4, by rw [keepC_ne (by decide), c2 _ (by decide) (by decide) _ hj]; exact o5, by rw [keepC_ne (by decide), c2 _ (by decide) (by decide) _ hj]; exact o6, by rw [keepC_ne (by decide), c2 _ (by decide) (by decide) _ hj]; exact o7⟩
  have h1 : RT (uO A (up2 (aO A) e (aN A e 4 + 1) (w, 1, 0, 0))) (keepC T T' 1032) := by
    refine RT_O h (fun x hx => ?_) (fun e' he' n' h3 h4 => ?_)
    · by_cases hx2 : x = 1032
      · subst hx2; rw [keepC_eq]
      · rw [keepC_ne hx2]
        exact c x hx2 hx
    · have : up2 (aO A) e (aN A e 4 + 1) (w, 1, 0, 0) e' n' = aO A e' n' := if_neg (fun z => by
        obtain ⟨z1, z2⟩ := z
        subst z1
        omega)
      rw [this]
      exact cells e' n' he' (fun z => by subst z; exact h4) h3 h4
  rw [e1]
  refine RT_given h1 he (fun e' he' n' h3 h4 => ?_)
  have h3' : aN A e' 3 < n' := by
    have : aN (sN (uO A (up2 (aO A) e (aN A e 4 + 1) (w, 1, 0, 0))) e 4 (aN A e 4 + 1)) e' 3 = aN A e' 3 := up2_ne2 (by decide)
    rw [← this]; exact h3
  by_cases hc : e' = e ∧ n' = aN A e 4 + 1
  · obtain ⟨rfl, rfl⟩ := hc
    show oT (up2 (aO A) e' (aN A e' 4 + 1) (w, 1, 0, 0) e' (aN A e' 4 + 1)) _ _
    rw [up2_eq]
    obtain ⟨o1, o2, o3, o4, o5, o6, o7⟩ := ho
    exact ⟨by rw [keepC_ne (by decide)]; exact o1, by rw [keepC_ne (by decide)]; exact o2, by rw [keepC_ne (by decide)]; exact o3, by rw [keepC_ne (by decide)]; exact o4, by rw [keepC_ne (by decide)]; exact o5, by rw [keepC_ne (by decide)]; exact o6, by rw [keepC_ne (by decide)]; exact o7⟩
  · have h5 : (aN (sN (uO A (up2 (aO A) e (aN A e 4 + 1) (w, 1, 0, 0))) e 4 (aN A e 4 + 1)) e' 4) = if e' = e then aN A e 4 + 1 else aN A e' 4 := by
      show up2 (aN A) e 4 (aN A e 4 + 1) e' 4 = _
      unfold up2
      by_cases hz : e' = e
      · rw [if_pos ⟨hz, rfl⟩, if_pos hz]
      · rw [if_neg (fun q => hz q.1), if_neg hz]
    have hu : up2 (aO A) e (aN A e 4 + 1) (w, 1, 0, 0) e' n' = aO A e' n' := if_neg hc
    show oT (up2 (aO A) e (aN A e 4 + 1) (w, 1, 0, 0) e' n') _ _
    rw [hu]
    rw [h5] at h4
    by_cases hz : e' = e
    · rw [if_pos hz] at h4
      subst hz
      have : n' ≠ aN A e' 4 + 1 := fun q => hc ⟨rfl, q⟩
      exact cells e' n' he' (fun _ => by omega) h3' (by omega)
    · rw [if_neg hz] at h4
      exact cells e' n' he' (fun q => absurd q hz) h3' h4
theorem m_addM_N (A : MA) (e s o : Nat) (lo : Bool) (v : Int32) (m : Nat) : ∀ k, aN (m_addM A e s o lo v m k) = up2 (aN A) e 4 (aN A e 4 + k)
  | 0 => by
    funext x y
    show aN A x y = _
    unfold up2
    split
    · rename_i h; obtain ⟨rfl, rfl⟩ := h; rfl
    · rfl
  | k + 1 => by
    have ih := m_addM_N A e s o lo v m k
    rw [m_addM]
    unfold m_addW
    show up2 (aN (m_addM A e s o lo v m k)) e 4 (aN (m_addM A e s o lo v m k) e 4 + 1) = _
    rw [ih, up2_eq]
    funext x y
    unfold up2
    split
    · rfl
    · rfl
