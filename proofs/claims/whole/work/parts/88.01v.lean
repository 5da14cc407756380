/-! Histories: what an end has sent in one connection, message by message. -/
def Ms (H : List WC) (f m s o : Nat) (l : Bool) : Prop := (1 ≤ f ∧ 1 ≤ m ∧ m ≤ 4) ∧ ∀ j, j < m → ∃ v, H[f + j - 1]? = some (v, s, o, Nat.beq j 0, Nat.beq (j + 1) m, l)
theorem Ms_len {H : List WC} {f m s o : Nat} {l : Bool} (h : Ms H f m s o l) : f + m ≤ H.length + 1 := by
  obtain ⟨⟨h1, h2, h3⟩, h4⟩ := h
  obtain ⟨v, hv⟩ := h4 (m - 1) (by omega)
  have := (List.getElem?_eq_some_iff.mp hv).1
  omega
theorem Ms_f {H : List WC} {f m s o f' m' s' o' n : Nat} {l l' : Bool} (h : Ms H f m s o l) (h' : Ms H f' m' s' o' l') (h1 : f ≤ n) (h2 : n < f + m) (h3 : f' ≤ n) (h4 : n < f' + m') : ¬ f < f' := by
  intro hlt
  obtain ⟨v, hv⟩ := h.2 (f' - f) (by omega)
  obtain ⟨v', hv'⟩ := h'.2 0 (by omega)
  rw [show f + (f' - f) - 1 = f' + 0 - 1 by omega, hv'] at hv
  have h5 := Option.some.inj hv
  have h6 : Nat.beq 0 0 = Nat.beq (f' - f) 0 := congrArg (fun w => w.2.2.2.1) h5
  have h7 : Nat.beq (f' - f) 0 = true := h6.symm
  have := Nat.eq_of_beq_eq_true h7
  omega
theorem Ms_same {H : List WC} {f m s o m' s' o' : Nat} {l l' : Bool} (h : Ms H f m s o l) (h' : Ms H f m' s' o' l') : m = m' ∧ s = s' ∧ o = o' ∧ l = l' := by
  have hm : ∀ {m m' s o s' o' : Nat} {l l' : Bool}, Ms H f m s o l → Ms H f m' s' o' l' → ¬ m < m' := by
    intro m m' s o s' o' l l' h h' hlt
    have b := h.1
    obtain ⟨v, hv⟩ := h.2 (m - 1) (by omega)
    obtain ⟨v', hv'⟩ := h'.2 (m - 1) (by omega)
    rw [hv] at hv'
    have h6 : Nat.beq (m - 1 + 1) m = Nat.beq (m - 1 + 1) m' := congrArg (fun w => w.2.2.2.2.1) (Option.some.inj hv')
    rw [show m - 1 + 1 = m by omega, Nat.beq_refl] at h6
    have := Nat.eq_of_beq_eq_true h6.symm
    omega
  have e : m = m' := by
    have a := hm h h'
    have b := hm h' h
    omega
  subst e
  have b := h.1
  obtain ⟨v, hv⟩ := h.2 0 (by omega)
  obtain ⟨v', hv'⟩ := h'.2 0 (by omega)
  rw [hv] at hv'
  have h5 := Option.some.inj hv'
  exact ⟨rfl, congrArg (fun w => w.2.1) h5, congrArg (fun w => w.2.2.1) h5, congrArg (fun w => w.2.2.2.2.2) h5⟩
theorem Ms_uniq {H : List WC} {f m s o f' m' s' o' n : Nat} {l l' : Bool} (h : Ms H f m s o l) (h' : Ms H f' m' s' o' l') (h1 : f ≤ n) (h2 : n < f + m) (h3 : f' ≤ n) (h4 : n < f' + m') : f = f' ∧ m = m' ∧ s = s' ∧ o = o' ∧ l = l' := by
  have a := Ms_f h h' h1 h2 h3 h4
  have b := Ms_f h' h h3 h4 h1 h2
  have e : f = f' := by omega
  subst e
  exact ⟨rfl, Ms_same h h'⟩
def WF (H : List WC) (od : Nat → Nat) : Prop := (∀ n, 1 ≤ n → n ≤ H.length → ∃ f m s o l, Ms H f m s o l ∧ f ≤ n ∧ n < f + m ∧ s < 3 ∧ o < f) ∧ (∀ f m s o f' m' o', Ms H f m s o false → Ms H f' m' s o' false → f < f' → o < o') ∧ (∀ s o, s < 3 → o < od s → ∃ f m, Ms H f m s o false) ∧ (∀ f m s o, Ms H f m s o false → o < od s) ∧ ∀ s, s < 3 → od s ≤ H.length
/-- what has come to an end, against what the other has sent; the first part also in the midst of a delivery -/
def IJ (A : MA) (e : Nat) (H : List WC) (od : Nat → Nat) : Prop := (∀ n, aH A e 1 n = true → aH A e 0 n = true ∧ 1 ≤ n ∧ H[n - 1]? = some (aW A e n)) ∧ (∀ f m s o l, Ms H f m s o l → ∀ n n', f ≤ n → n < f + m → f ≤ n' → n' < f + m → aH A e 0 n = true → aH A e 1 n = false → aH A e 0 n' = true ∧ aH A e 1 n' = false) ∧ (∀ f m s o, Ms H f m s o false → ∀ n, f ≤ n → n < f + m → (aH A e 1 n = true → aN A e (16 + s) ≤ o) ∧ (aH A e 0 n = true → aH A e 1 n = false → o < aN A e (16 + s)) ∧ (o < aN A e (16 + s) → aH A e 0 n = true)) ∧ ∀ s, s < 3 → aN A e (16 + s) ≤ od s
def hb16 (A : MA) (e : Nat) : Prop := ∀ m, aH A e 1 m = true → m ≤ aN A e 5 + 16
theorem held_w {A : MA} {e : Nat} {H : List WC} {od : Nat → Nat} (hJ : IJ A e H od) {f m s o j : Nat} {l : Bool} (hM : Ms H f m s o l) (hj : j < m) (hh : aH A e 1 (f + j) = true) : ∃ v, aW A e (f + j) = (v, s, o, Nat.beq j 0, Nat.beq (j + 1) m, l) := by
  obtain ⟨v, hv⟩ := hM.2 j hj
  have := (hJ.1 _ hh).2.2
  rw [hv] at this
  exact ⟨v, (Option.some.inj this).symm⟩
theorem whl_all {A : MA} {e : Nat} {H : List WC} {od : Nat → Nat} (hJ : IJ A e H od) {f m s o : Nat} {l : Bool} (hM : Ms H f m s o l) (hh : ∀ j, j < m → aH A e 1 (f + j) = true) : ∀ k i, i < m → m ≤ i + k → whlN A e f k i = m
  | 0, i => fun h1 h2 => by omega
  | k + 1, i => fun h1 h2 => by
    obtain ⟨v, hv⟩ := held_w hJ hM h1 (hh i h1)
    rw [whlN, if_pos (hh i h1), hv]
    by_cases hz : i + 1 = m
    · rw [if_pos (show Nat.beq (i + 1) m = true by rw [hz]; exact Nat.beq_refl m)]
      exact hz
    · rw [if_neg (show ¬ Nat.beq (i + 1) m = true from fun z => hz (Nat.eq_of_beq_eq_true z))]
      exact whl_all hJ hM hh k (i + 1) (by omega) (by omega)
theorem whl_no {A : MA} {e : Nat} {H : List WC} {od : Nat → Nat} (hJ : IJ A e H od) {f m s o d : Nat} {l : Bool} (hM : Ms H f m s o l) (hd : d < m) (hh : aH A e 1 (f + d) = false) : ∀ k i, i ≤ d → whlN A e f k i = 0
  | 0, i => fun h1 => rfl
  | k + 1, i => fun h1 => by
    rw [whlN]
    by_cases hi : aH A e 1 (f + i) = true
    · have hne : i ≠ d := fun z => by rw [z, hh] at hi; cases hi
      obtain ⟨v, hv⟩ := held_w hJ hM (show i < m by omega) hi
      rw [if_pos hi, hv, if_neg (show ¬ Nat.beq (i + 1) m = true from fun z => by have := Nat.eq_of_beq_eq_true z; omega)]
      exact whl_no hJ hM hd hh k (i + 1) (by omega)
    · rw [if_neg hi]
/-- a message that may become ready, told by the history -/
def Cd (A : MA) (e : Nat) (H : List WC) (f : Nat) : Prop := ∃ m s o l, Ms H f m s o l ∧ (∀ j, j < m → aH A e 1 (f + j) = true) ∧ (l = true ∨ o = aN A e (16 + s))
theorem cand_Cd {A : MA} {e : Nat} {H : List WC} {od : Nat → Nat} (hW : WF H od) (hJ : IJ A e H od) (hb : hb16 A e) (f : Nat) : m_cand A e f = true ↔ Cd A e H f := by
  rw [cand_if]
  constructor
  · rintro ⟨⟨h1, h2⟩, h3, h4⟩
    obtain ⟨a1, a2, a3⟩ := hJ.1 f h1
    have hlen := (List.getElem?_eq_some_iff.mp a3).1
    obtain ⟨f', m, s, o, l, hM, b1, b2, b3, b4⟩ := hW.1 f a2 (by omega)
    obtain ⟨v, hv⟩ := held_w hJ hM (j := f - f') (by omega) (by rw [show f' + (f - f') = f by omega]; exact h1)
    rw [show f' + (f - f') = f by omega] at hv
    rw [hv] at h2 h4
    have h5 : Nat.beq (f - f') 0 = true := h2
    have h6 := Nat.eq_of_beq_eq_true h5
    have h7 : f = f' := by omega
    subst h7
    refine ⟨m, s, o, l, hM, fun j hj => ?_, h4⟩
    cases hz : aH A e 1 (f + j) with
    | true => rfl
    | false =>
      have := whl_no hJ hM hj hz (aN A e 5 + 17 - f) 0 (Nat.zero_le _)
      unfold m_whl at h3
      omega
  · rintro ⟨m, s, o, l, hM, h1, h2⟩
    have hm := hM.1
    have h0 := h1 0 (by omega)
    rw [Nat.add_zero] at h0
    obtain ⟨v, hv⟩ := held_w hJ hM (j := 0) (by omega) (by rw [Nat.add_zero]; exact h0)
    rw [Nat.add_zero] at hv
    have hend := hb _ (h1 (m - 1) (by omega))
    have hw := whl_all hJ hM h1 (aN A e 5 + 17 - f) 0 (by omega) (by omega)
    refine ⟨⟨h0, by rw [hv]; rfl⟩, ?_, by rw [hv]; exact h2⟩
    unfold m_whl
    omega
theorem Cd_whl {A : MA} {e : Nat} {H : List WC} {od : Nat → Nat} (hJ : IJ A e H od) (hb : hb16 A e) {f m s o : Nat} {l : Bool} (hM : Ms H f m s o l) (h1 : ∀ j, j < m → aH A e 1 (f + j) = true) : m_whl A e f = m ∧ ∃ v, aW A e f = (v, s, o, true, Nat.beq 1 m, l) := by
  have hm := hM.1
  have hend := hb _ (h1 (m - 1) (by omega))
  refine ⟨whl_all hJ hM h1 (aN A e 5 + 17 - f) 0 (by omega) (by omega), ?_⟩
  obtain ⟨v, hv⟩ := held_w hJ hM (j := 0) (by omega) (h1 0 (by omega))
  rw [Nat.add_zero] at hv
  exact ⟨v, hv⟩
/-- one message becomes ready -/
theorem IJ_move {A : MA} {e : Nat} {H : List WC} {od : Nat → Nat} (hW : WF H od) (hJ : IJ A e H od) (hb : hb16 A e) {f m s o : Nat} {l : Bool} (hM : Ms H f m s o l) (hs : s < 3) (h1 : ∀ j, j < m → aH A e 1 (f + j) = true) (h2 : l = true ∨ o = aN A e (16 + s)) : IJ (m_move A e f m) e H od ∧ hb16 (m_move A e f m) e ∧ ∀ f', Cd (m_move A e f m) e H f' → (Cd A e H f' ∧ f' ≠ f) ∨ (l = false ∧ f < f' ∧ ∃ m', Ms H f' m' s (o + 1) false) := by
  have hm := hM.1
  obtain ⟨_, v, hv⟩ := Cd_whl hJ hb hM h1
  obtain ⟨i1, i2, i3, i4⟩ := hJ
  have n5 : aN (m_move A e f m) e 5 = aN A e 5 := m_move_5 A e f m (by rw [hv]; exact hs)
  have n16 : ∀ t, t < 3 → aN (m_move A e f m) e (16 + t) = if t = s ∧ l = false then aN A e (16 + t) + 1 else aN A e (16 + t) := by
    intro t ht
    rw [m_move_N, hv, if_neg (by show ¬ (e = e ∧ 16 + t = 23 + s); omega)]
    by_cases hz : t = s ∧ l = false
    · rw [if_pos hz, if_pos (show (e = e ∧ 16 + t = 16 + s) ∧ l = false from ⟨⟨rfl, by omega⟩, hz.2⟩), hz.1]
    · rw [if_neg hz, if_neg (fun z => hz ⟨by have := z.1.2; have : 16 + t = 16 + s := this; omega, z.2⟩)]
  have H0 : ∀ n, aH (m_move A e f m) e 0 n = aH A e 0 n := fun n => by rw [move_H, if_neg (by omega)]
  have H1 : ∀ n, aH (m_move A e f m) e 1 n = if f ≤ n ∧ n < f + m then false else aH A e 1 n := fun n => by
    rw [move_H]
    by_cases hz : f ≤ n ∧ n < f + m
    · rw [if_pos ⟨rfl, hz⟩, if_pos hz]
    · rw [if_neg (fun z => hz z.2), if_neg hz]
  have H1s : ∀ n, aH (m_move A e f m) e 1 n = true → aH A e 1 n = true ∧ ¬ (f ≤ n ∧ n < f + m) := fun n hn => by
    rw [H1] at hn
    by_cases hz : f ≤ n ∧ n < f + m
    · rw [if_pos hz] at hn; cases hn
    · rw [if_neg hz] at hn; exact ⟨hn, hz⟩
  have had : ∀ n, f ≤ n → n < f + m → aH A e 0 n = true := fun n p q => (i1 n (by have := h1 (n - f) (by omega); rw [show f + (n - f) = n by omega] at this; exact this)).1
  -- the message of another number is another message
  have oth : ∀ f' m' s' o' l' n, Ms H f' m' s' o' l' → f' ≤ n → n < f' + m' → ¬ (f ≤ n ∧ n < f + m) → ∀ n', f' ≤ n' → n' < f' + m' → ¬ (f ≤ n' ∧ n' < f + m) := by
    intro f' m' s' o' l' n hM' p q hne n' p' q' hz
    obtain ⟨e1, e2, _⟩ := Ms_uniq hM hM' hz.1 hz.2 p' q'
    omega
  have s3 : ∀ f' m' s' o', Ms H f' m' s' o' false → s' < 3 := by
    intro f' m' s' o' hM'
    obtain ⟨f2, m2, s2, o2, l2, a, b, c, d, _⟩ := hW.1 f' hM'.1.1 (by have := Ms_len hM'; have := hM'.1; omega)
    obtain ⟨_, _, e3, _⟩ := Ms_uniq a hM' b c (Nat.le_refl _) (by have := hM'.1; omega)
    omega
  refine ⟨⟨fun n hn => ?_, fun f' m' s' o' l' hM' n n' p q p' q' z1 z2 => ?_, fun f' m' s' o' hM' n p q => ⟨fun hn => ?_, fun z1 z2 => ?_, fun z => ?_⟩, fun t ht => ?_⟩, fun n hn => ?_, fun f' hc => ?_⟩
  · rw [H0, m_move_W]
    exact i1 n (H1s n hn).1
  · rw [H0] at z1 ⊢
    by_cases hz : f ≤ n ∧ n < f + m
    · obtain ⟨e1, e2, _⟩ := Ms_uniq hM hM' hz.1 hz.2 p q
      subst e1 e2
      rw [H1, if_pos ⟨p', q'⟩]
      exact ⟨had n' p' q', rfl⟩
    · rw [H1, if_neg hz] at z2
      have hz' := oth f' m' s' o' l' n hM' p q hz n' p' q'
      rw [H1, if_neg hz']
      exact i2 f' m' s' o' l' hM' n n' p q p' q' z1 z2
  · obtain ⟨hn1, hn2⟩ := H1s n hn
    have hs' := s3 _ _ _ _ hM'
    have old := (i3 f' m' s' o' hM' n p q).1 hn1
    rw [n16 s' hs']
    by_cases hz : s' = s ∧ l = false
    · rw [if_pos hz]
      obtain ⟨hz1, hz2⟩ := hz
      subst hz1 hz2
      have ho : o = aN A e (16 + s') := h2.resolve_left (by decide)
      have hne : o' ≠ o := fun z => by
        have a1 := hW.2.1 f m s' o f' m' o' hM hM'
        have a2 := hW.2.1 f' m' s' o' f m o hM' hM
        have : f = f' := by omega
        subst this
        have := (Ms_same hM hM').1
        omega
      omega
    · rw [if_neg hz]
      exact old
  · rw [H0] at z1
    have hs' := s3 _ _ _ _ hM'
    rw [n16 s' hs']
    by_cases hz : f ≤ n ∧ n < f + m
    · obtain ⟨e1, e2, e3, e4, e5⟩ := Ms_uniq hM hM' hz.1 hz.2 p q
      subst e3 e4 e5
      have ho : o = aN A e (16 + s) := h2.resolve_left (by decide)
      rw [if_pos ⟨rfl, rfl⟩]
      omega
    · rw [H1, if_neg hz] at z2
      have := (i3 f' m' s' o' hM' n p q).2.1 z1 z2
      split <;> omega
  · rw [H0]
    have hs' := s3 _ _ _ _ hM'
    rw [n16 s' hs'] at z
    by_cases hz : s' = s ∧ l = false
    · rw [if_pos hz] at z
      obtain ⟨hz1, hz2⟩ := hz
      subst hz1 hz2
      have ho : o = aN A e (16 + s') := h2.resolve_left (by decide)
      by_cases hlt : o' < aN A e (16 + s')
      · exact (i3 f' m' s' o' hM' n p q).2.2 hlt
      · have a1 := hW.2.1 f m s' o f' m' o' hM hM'
        have a2 := hW.2.1 f' m' s' o' f m o hM' hM
        have : f = f' := by omega
        subst this
        have := (Ms_same hM hM').1
        exact had n p (by omega)
    · rw [if_neg hz] at z
      exact (i3 f' m' s' o' hM' n p q).2.2 z
  · rw [n16 t ht]
    have := i4 t ht
    split
    · rename_i hz
      obtain ⟨hz1, hz2⟩ := hz
      subst hz1 hz2
      have ho : o = aN A e (16 + t) := h2.resolve_left (by decide)
      have := hW.2.2.2.1 f m t o hM
      omega
    · exact this
  · rw [n5]
    exact hb n (H1s n hn).1
  · obtain ⟨m', s', o', l', hM', k1, k2⟩ := hc
    have hm' := hM'.1
    have hold : ∀ j, j < m' → aH A e 1 (f' + j) = true := fun j hj => (H1s _ (k1 j hj)).1
    have hne : f' ≠ f := fun z => by
      subst z
      have h0 := (H1s _ (k1 0 (by omega))).2
      omega
    by_cases hc2 : l' = true ∨ o' = aN A e (16 + s')
    · exact Or.inl ⟨⟨m', s', o', l', hM', hold, hc2⟩, hne⟩
    · have hl' : l' = false := by
        cases hz : l' with
        | false => rfl
        | true => exact absurd (Or.inl hz) hc2
      subst hl'
      have k2' := k2.resolve_left (by decide)
      have hs' := s3 _ _ _ _ hM'
      rw [n16 s' hs'] at k2'
      by_cases hz : s' = s ∧ l = false
      · rw [if_pos hz] at k2'
        obtain ⟨hz1, hz2⟩ := hz
        subst hz1 hz2
        have ho : o = aN A e (16 + s') := h2.resolve_left (by decide)
        have a2 := hW.2.1 f' m' s' o' f m o hM' hM
        refine Or.inr ⟨rfl, by omega, m', ?_⟩
        rw [show o + 1 = o' by omega]
        exact hM'
      · rw [if_neg hz] at k2'
        exact absurd (Or.inr k2') hc2
