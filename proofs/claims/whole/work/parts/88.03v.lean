/-! The inbox of an end that is up, against what the other has sent. -/
def IN (A : MA) (e : Nat) (H : List WC) (od : Nat → Nat) : Prop := IJ A e H od ∧ (∀ n, 1 ≤ n → n ≤ aN A e 5 → aH A e 0 n = true) ∧ (∀ n, aH A e 0 n = true → 1 ≤ n ∧ n ≤ aN A e 5 + 16 ∧ n ≤ H.length) ∧ aH A e 0 (aN A e 5 + 1) = false ∧ ∀ f, ¬ Cd A e H f
theorem held_late {X : MA} {e L : Nat} {H : List WC} {od : Nat → Nat} (hW : WF H od) (hJ : IJ X e H od) (h1 : ∀ n, 1 ≤ n → n ≤ L → aH X e 0 n = true) (hno : ∀ f, ¬ Cd X e H f) {m : Nat} (hm : aH X e 1 m = true) : L < m + 4 := by
  apply Nat.lt_of_not_le
  intro hL
  obtain ⟨a1, a2, a3⟩ := hJ.1 m hm
  have hlen := (List.getElem?_eq_some_iff.mp a3).1
  obtain ⟨f, k, s, o, l, hM, b1, b2, b3, b4⟩ := hW.1 m a2 (by omega)
  have hb := hM.1
  have hall : ∀ f' k' s' o' l', Ms H f' k' s' o' l' → f' + k' ≤ L + 1 → (∃ n, f' ≤ n ∧ n < f' + k' ∧ aH X e 1 n = true) → ∀ j, j < k' → aH X e 1 (f' + j) = true := by
    intro f' k' s' o' l' hM' hL' hn j hj
    obtain ⟨n, n1, n2, n3⟩ := hn
    cases hz : aH X e 1 (f' + j) with
    | true => rfl
    | false =>
      have := (hJ.2.1 f' k' s' o' l' hM' (f' + j) n (by omega) (by omega) n1 n2 (h1 _ (by have := hM'.1; omega) (by omega)) hz).2
      rw [n3] at this
      cases this
  have hheld := hall f k s o l hM (by omega) ⟨m, b1, b2, hm⟩
  by_cases hl : l = true
  · exact hno f ⟨k, s, o, l, hM, hheld, Or.inl hl⟩
  · have hl' : l = false := by cases l <;> simp_all
    subst hl'
    have c1 := (hJ.2.2.1 f k s o hM m b1 b2).1 hm
    by_cases ho : o = aN X e (16 + s)
    · exact hno f ⟨k, s, o, false, hM, hheld, Or.inr ho⟩
    · have hod := hW.2.2.2.1 f k s o hM
      obtain ⟨f', k', hM'⟩ := hW.2.2.1 s (aN X e (16 + s)) b3 (by omega)
      have hb' := hM'.1
      have hff : f' < f := by
        have q := hW.2.1 f k s o f' k' _ hM hM'
        by_cases hz : f = f'
        · subst hz
          have := (Ms_same hM hM').2.2.1
          omega
        · omega
      have hdis : f' + k' ≤ f := by
        apply Nat.le_of_not_lt
        intro hz
        have := Ms_uniq hM hM' (Nat.le_refl f) (by omega) (by omega) hz
        omega
      refine hno f' ⟨k', s, _, false, hM', fun j hj => ?_, Or.inr rfl⟩
      cases hz : aH X e 1 (f' + j) with
      | true => rfl
      | false =>
        have := (hJ.2.2.1 f' k' s _ hM' (f' + j) (by omega) (by omega)).2.1 (h1 _ (by omega) (by omega)) hz
        omega
theorem IN_late {A : MA} {e : Nat} {H : List WC} {od : Nat → Nat} (hW : WF H od) (h : IN A e H od) {m : Nat} (hm : aH A e 1 m = true) : aN A e 5 < m + 4 := held_late hW h.1 h.2.1 h.2.2.2.2 hm
theorem drop_no {A : MA} {e n : Nat} (h : ¬ m_drop A e n = true) : 1 ≤ n ∧ aN A e 5 < n ∧ n ≤ aN A e 5 + 16 ∧ aH A e 0 n = false := by
  unfold m_drop m_has at h
  rw [decide_eq_true_iff] at h
  simp only [not_or, Bool.or_eq_true, Bool.and_eq_true, decide_eq_true_eq, not_and] at h
  obtain ⟨h1, ⟨h2, h3⟩, h4, _⟩ := h
  refine ⟨by omega, by omega, by omega, ?_⟩
  have := h3 (by omega)
  cases hz : aH A e 0 n with
  | false => rfl
  | true => exact absurd hz this
theorem put_H {A : MA} {e n : Nat} {w : WC} {k i : Nat} (hk : k < 2) : aH (m_put A e n w) e k i = if i = n then true else aH A e k i := by
  show (if e = e ∧ k < 2 ∧ i = n then true else aH A e k i) = _
  by_cases h : i = n
  · rw [if_pos ⟨rfl, hk, h⟩, if_pos h]
  · rw [if_neg (fun z => h z.2.2), if_neg h]
theorem put_W {A : MA} {e n : Nat} {w : WC} {i : Nat} : aW (m_put A e n w) e i = if i = n then w else aW A e i := by
  show (if e = e ∧ i = n then w else aW A e i) = _
  by_cases h : i = n
  · rw [if_pos ⟨rfl, h⟩, if_pos h]
  · rw [if_neg (fun z => h z.2), if_neg h]
theorem IJ_put {A : MA} {e n : Nat} {w : WC} {H : List WC} {od : Nat → Nat} (h : IJ A e H od) (hn : 1 ≤ n) (hh : aH A e 0 n = false) (hw : H[n - 1]? = some w) : IJ (m_put A e n w) e H od := by
  obtain ⟨i1, i2, i3, i4⟩ := h
  refine ⟨fun i hi => ?_, fun f m s o l hM i i' a b a' b' z1 z2 => ?_, fun f m s o hM i a b => ⟨fun hi => ?_, fun z1 z2 => ?_, fun z => ?_⟩, i4⟩
  · rw [put_H (by omega)] at hi ⊢
    rw [put_W]
    by_cases hz : i = n
    · rw [if_pos hz, if_pos hz, hz]
      exact ⟨rfl, hn, hw⟩
    · rw [if_neg hz] at hi ⊢
      rw [if_neg hz]
      exact i1 i hi
  · rw [put_H (by omega)] at z1 z2 ⊢
    by_cases hz : i = n
    · rw [if_pos hz] at z2; cases z2
    · rw [if_neg hz] at z1 z2
      obtain ⟨q1, q2⟩ := i2 f m s o l hM i i' a b a' b' z1 z2
      have hz' : i' ≠ n := fun z => by rw [z, hh] at q1; cases q1
      rw [put_H (by omega), if_neg hz', if_neg hz']
      exact ⟨q1, q2⟩
  · rw [put_H (by omega)] at hi
    by_cases hz : i = n
    · subst hz
      apply Nat.le_of_not_lt
      intro hlt
      have := (i3 f m s o hM i a b).2.2 hlt
      rw [hh] at this
      cases this
    · rw [if_neg hz] at hi
      exact (i3 f m s o hM i a b).1 hi
  · rw [put_H (by omega)] at z1 z2
    by_cases hz : i = n
    · rw [if_pos hz] at z2; cases z2
    · rw [if_neg hz] at z1 z2
      exact (i3 f m s o hM i a b).2.1 z1 z2
  · rw [put_H (by omega)]
    by_cases hz : i = n
    · rw [if_pos hz]
    · rw [if_neg hz]
      exact (i3 f m s o hM i a b).2.2 z
theorem JC_put {A : MA} {e n : Nat} {w : WC} {H : List WC} {od : Nat → Nat} (hW : WF H od) (h : IN A e H od) (hn : 1 ≤ n) (hl : aN A e 5 < n) (hl2 : n ≤ aN A e 5 + 16) (hh : aH A e 0 n = false) (hw : H[n - 1]? = some w) : JC (m_put A e n w) e H od (n0 A e) := by
  obtain ⟨i1, i2, i3, i4, i5⟩ := h
  have hmem : ∀ f, Cd (m_put A e n w) e H f → ∃ m s o l, Ms H f m s o l ∧ f ≤ n ∧ n < f + m := by
    intro f hc
    obtain ⟨m, s, o, l, hM, k1, k2⟩ := hc
    by_cases hz : f ≤ n ∧ n < f + m
    · exact ⟨m, s, o, l, hM, hz⟩
    · refine absurd ⟨m, s, o, l, hM, fun j hj => ?_, k2⟩ (i5 f)
      have := k1 j hj
      rw [put_H (by omega), if_neg (by omega)] at this
      exact this
  refine ⟨IJ_put i1 hn hh hw, fun m hm => ?_, fun f hf => ?_, fun f f' hf hf' => ?_⟩
  · rw [put_H (by omega)] at hm
    show m ≤ aN A e 5 + 16
    by_cases hz : m = n
    · omega
    · rw [if_neg hz] at hm
      exact (i3 m (i1.1 m hm).1).2.1
  · obtain ⟨m, s, o, l, hM, a, b⟩ := hmem f hf
    have := hM.1
    unfold n0
    omega
  · obtain ⟨m, s, o, l, hM, a, b⟩ := hmem f hf
    obtain ⟨m', s', o', l', hM', a', b'⟩ := hmem f' hf'
    exact (Ms_uniq hM hM' a b a' b').1
theorem cntN_one {f g : Nat → Bool} {n : Nat} (h : ∀ i, i ≠ n → g i = f i) : ∀ (k a : Nat), cntN g a k ≤ cntN f a k + 1 ∧ (a + k < n → cntN g a k = cntN f a k)
  | 0, a => ⟨by rw [cntN, cntN]; omega, fun _ => rfl⟩
  | k + 1, a => by
    obtain ⟨h1, h2⟩ := cntN_one h k a
    rw [cntN, cntN]
    by_cases hz : a + k + 1 = n
    · have := h2 (by omega)
      refine ⟨?_, fun q => by omega⟩
      split <;> split <;> omega
    · rw [h _ hz]
      refine ⟨by omega, fun q => ?_⟩
      rw [h2 (by omega)]
def cHa (A : MA) (e : Nat) : Nat := cntN (aH A e 0) 0 543
theorem cHd_put {A : MA} {e n : Nat} {w : WC} : cHd (m_put A e n w) e ≤ cHd A e + 1 := (cntN_one (fun i hi => by rw [put_H (by omega), if_neg hi]) 543 0).1
theorem cHa_put {A : MA} {e n : Nat} {w : WC} : cHa (m_put A e n w) e ≤ cHa A e + 1 := (cntN_one (fun i hi => by rw [put_H (by omega), if_neg hi]) 543 0).1
theorem cHd_le (A : MA) (e : Nat) : cHd A e ≤ 543 := by
  have : ∀ (f : Nat → Bool) (k a : Nat), cntN f a k ≤ k := by
    intro f k
    induction k with
    | zero => intro a; exact Nat.le_refl _
    | succ k ih =>
      intro a
      rw [cntN]
      have := ih a
      split <;> omega
  exact this _ _ _
theorem cntN_all {f : Nat → Bool} : ∀ (k a L : Nat), (∀ n, a < n → n ≤ L → f n = true) → L ≤ a + k → L ≤ a + cntN f a k
  | 0, a, L => fun h1 h2 => by rw [cntN]; omega
  | k + 1, a, L => fun h1 h2 => by
    rw [cntN]
    by_cases hz : L ≤ a + k
    · have := cntN_all k a L h1 hz
      omega
    · have := cntN_all k a (a + k) (fun n p q => h1 n p (by omega)) (Nat.le_refl _)
      rw [if_pos (h1 (a + k + 1) (by omega) (by omega))]
      omega
theorem late_le {A : MA} {e : Nat} {H : List WC} {od : Nat → Nat} (h : IN A e H od) (h5 : ∀ k n, 544 ≤ n → aH A e k n = false) : aN A e 5 ≤ cHa A e := by
  have hl : aN A e 5 ≤ 543 := by
    apply Nat.le_of_not_lt
    intro hz
    have a := h.2.1 544 (by omega) (by omega)
    rw [h5 0 544 (by omega)] at a
    cases a
  have := cntN_all (f := aH A e 0) 543 0 (aN A e 5) (fun n p q => h.2.1 n p q) (by omega)
  unfold cHa
  omega
