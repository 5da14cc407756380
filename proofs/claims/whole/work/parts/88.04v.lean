theorem runN_all (f : Nat → Bool) : ∀ k a n, a < n → n ≤ runN f a k → f n = true
  | 0, a, n => fun h1 h2 => by rw [runN] at h2; omega
  | k + 1, a, n => fun h1 h2 => by
    rw [runN] at h2
    by_cases hf : f (a + 1) = true
    · rw [if_pos hf] at h2
      by_cases hz : n = a + 1
      · rw [hz]; exact hf
      · exact runN_all f k (a + 1) n (by omega) h2
    · rw [if_neg hf] at h2
      omega
theorem runN_stop (f : Nat → Bool) : ∀ k a, runN f a k < a + k → f (runN f a k + 1) = false
  | 0, a => fun h => by rw [runN] at h; omega
  | k + 1, a => fun h => by
    rw [runN] at h ⊢
    by_cases hf : f (a + 1) = true
    · rw [if_pos hf] at h ⊢
      exact runN_stop f k (a + 1) (by omega)
    · rw [if_neg hf]
      cases hz : f (a + 1) with
      | false => rfl
      | true => exact absurd hz hf
theorem IJ_bM {B : MA} {e : Nat} {H : List WC} {od : Nat → Nat} (hW : WF H od) (hJ : IJ B e H od) (hb : hb16 B e) (hl : ∀ m, aH B e 1 m = true → aN B e 5 < m + 4) (hH : H.length ≤ 3000) (hc : (aR B e).length + cHd B e ≤ 512) (h5 : aN B e 5 ≤ 511) : bM B e := by
  have key : ∀ m, aH B e 1 m = true → ∃ f k s o l, Ms H f k s o l ∧ f ≤ m ∧ m < f + k ∧ s < 3 ∧ o < f ∧ ∃ v, aW B e m = (v, s, o, Nat.beq (m - f) 0, Nat.beq (m - f + 1) k, l) := by
    intro m hm
    obtain ⟨a1, a2, a3⟩ := hJ.1 m hm
    have hlen := (List.getElem?_eq_some_iff.mp a3).1
    obtain ⟨f, k, s, o, l, hM, b1, b2, b3, b4⟩ := hW.1 m a2 (by omega)
    obtain ⟨v, hv⟩ := held_w hJ hM (j := m - f) (by omega) (by rw [show f + (m - f) = m by omega]; exact hm)
    rw [show f + (m - f) = m by omega] at hv
    exact ⟨f, k, s, o, l, hM, b1, b2, b3, b4, v, hv⟩
  refine ⟨fun m hm hf => ?_, fun m hm => ?_, fun s hs => ?_, hc, h5⟩
  · obtain ⟨f, k, s, o, l, hM, b1, b2, b3, b4, v, hv⟩ := key m hm
    rw [hv] at hf
    have h6 : Nat.beq (m - f) 0 = true := hf
    have h7 := Nat.eq_of_beq_eq_true h6
    have : m = f := by omega
    subst this
    have hb := hM.1
    refine ⟨k - 1, by omega, fun hh => ?_⟩
    obtain ⟨v', hv'⟩ := held_w hJ hM (j := k - 1) (by omega) hh
    rw [hv']
    show Nat.beq (k - 1 + 1) k = true
    rw [show k - 1 + 1 = k by omega]
    exact Nat.beq_refl k
  · obtain ⟨f, k, s, o, l, hM, b1, b2, b3, b4, v, hv⟩ := key m hm
    have hb' := hM.1
    have := Ms_len hM
    rw [hv]
    exact ⟨⟨(hJ.1 m hm).2.1, hb m hm, hl m hm⟩, b3, by show o < 4000; omega⟩
  · have a := hJ.2.2.2 s hs
    have b := hW.2.2.2.2 s hs
    have := cHd_le B e
    omega
/-- counts of what has come: never more than calls -/
def qC (A : MA) (e c : Nat) : Prop := (aR A e).length + cHd A e ≤ c ∧ (∀ s, s < 3 → aN A e (23 + s) + cHd A e ≤ c) ∧ ∀ q ∈ aR A e, q.1 < 3
theorem qC_stp {A : MA} {e n c : Nat} (hb : bM A e) (h : qC A e c) : qC (m_stp A e n) e c := by
  unfold m_stp
  split
  · rename_i hc
    obtain ⟨⟨hh, _⟩, hp, _⟩ := cand_if.mp hc
    obtain ⟨⟨b1, b2, b3⟩, b4, b5⟩ := hb.2.1 n hh
    have b6 := hb.2.2.2.2
    have hlt := cHd_move (m := m_whl A e n) hh b1 (by omega) hp
    obtain ⟨q1, q2, q3⟩ := h
    refine ⟨?_, fun s hs => ?_, fun q hq => ?_⟩
    · rw [m_move_R, up1_eq, List.length_append, List.length_singleton]
      omega
    · have := q2 s hs
      rw [m_move_N]
      by_cases hz : e = e ∧ 23 + s = 23 + (aW A e n).2.1
      · rw [if_pos hz]
        have : s = (aW A e n).2.1 := by omega
        rw [← this]
        omega
      · rw [if_neg hz, if_neg (by omega)]
        omega
    · rw [m_move_R, up1_eq, List.mem_append] at hq
      rcases hq with hq | hq
      · exact q3 q hq
      · rw [List.mem_singleton] at hq
        subst hq
        exact b4
  · exact h
theorem qC_pass {A : MA} {e n c : Nat} (hb : bM A e) (h : qC A e c) : ∀ k, qC (m_pass A e n k) e c
  | 0 => h
  | k + 1 => qC_stp (bM_pass hb k) (qC_pass hb h k)
/-- what a delivery of data leaves as it is -/
def gF (e : Nat) (A B : MA) : Prop := (∀ x i, ¬ (x = e ∧ i = 10) → aI B x i = aI A x i) ∧ (∀ x i, ¬ (x = e ∧ (i = 5 ∨ (16 ≤ i ∧ i < 19) ∨ (23 ≤ i ∧ i < 26))) → aN B x i = aN A x i) ∧ (aB B = aB A ∧ aO B = aO A) ∧ (∀ x, x ≠ e → aH B x = aH A x ∧ aW B x = aW A x ∧ aR B x = aR A x) ∧ B.2.2.2.2.2.2.2 = A.2.2.2.2.2.2.2
theorem gF_refl (e : Nat) (A : MA) : gF e A A := ⟨fun _ _ _ => rfl, fun _ _ _ => rfl, ⟨rfl, rfl⟩, fun _ _ => ⟨rfl, rfl, rfl⟩, rfl⟩
theorem gF_trans {e : Nat} {A B C : MA} (h : gF e A B) (k : gF e B C) : gF e A C := by
  obtain ⟨a1, a2, ⟨a3, a4⟩, a5, a6⟩ := h
  obtain ⟨b1, b2, ⟨b3, b4⟩, b5, b6⟩ := k
  refine ⟨fun x i q => (b1 x i q).trans (a1 x i q), fun x i q => (b2 x i q).trans (a2 x i q), ⟨b3.trans a3, b4.trans a4⟩, fun x q => ?_, b6.trans a6⟩
  obtain ⟨p1, p2, p3⟩ := a5 x q
  obtain ⟨r1, r2, r3⟩ := b5 x q
  exact ⟨r1.trans p1, r2.trans p2, r3.trans p3⟩
theorem gF_put {A : MA} {e n : Nat} {w : WC} : gF e A (m_put A e n w) := by
  refine ⟨fun x i q => if_neg q, fun x i q => rfl, ⟨rfl, rfl⟩, fun x q => ⟨?_, ?_, rfl⟩, rfl⟩
  · funext k i
    exact if_neg (fun z => q z.1)
  · funext i
    exact if_neg (fun z => q z.1)
theorem gF_5 {A : MA} {e L : Nat} : gF e A (sN A e 5 L) := ⟨fun _ _ _ => rfl, fun x i q => if_neg (fun z => q ⟨z.1, Or.inl z.2⟩), ⟨rfl, rfl⟩, fun _ _ => ⟨rfl, rfl, rfl⟩, rfl⟩
theorem gF_stp {A : MA} {e n : Nat} (hb : bM A e) : gF e A (m_stp A e n) := by
  unfold m_stp
  split
  · rename_i hc
    obtain ⟨⟨hh, _⟩, hp, _⟩ := cand_if.mp hc
    have b4 := (hb.2.1 n hh).2.1
    have m2 := move_2 A e n (m_whl A e n)
    refine ⟨fun x i q => by rw [show aI (m_move A e n (m_whl A e n)) = aI A from move_1 _ _ _ _], fun x i q => ?_, ⟨congrArg (fun z => z.1) m2, congrArg (fun z => z.2.1) m2⟩, fun x q => ⟨?_, ?_, ?_⟩, congrArg (fun z => z.2.2.2.2.2) m2⟩
    · rw [m_move_N, if_neg (by omega), if_neg (by omega)]
    · rw [m_move_H]
      funext k i
      exact if_neg (fun z => q z.1)
    · rw [m_move_W]
    · rw [m_move_R, up1_ne q]
  · exact gF_refl e A
theorem gF_pass {A : MA} {e n : Nat} (hb : bM A e) : ∀ k, gF e A (m_pass A e n k)
  | 0 => gF_refl e A
  | k + 1 => gF_trans (gF_pass hb k) (gF_stp (bM_pass hb k))
/-- a word that is taken -/
theorem get_all {A : MA} {e n : Nat} {w : WC} {H : List WC} {od : Nat → Nat} (hW : WF H od) (h : IN A e H od) (hH : H.length ≤ 3000) (h5 : aN A e 5 ≤ 511) (hd : ¬ m_drop A e n = true) (hw : H[n - 1]? = some w) {c : Nat} (hq : qC A e c) (hc : c ≤ 511) : gOK A e n w ∧ (IN (m_get A e n w) e H od ∧ qC (m_get A e n w) e (c + 1) ∧ gF e A (m_get A e n w)) ∧ (∀ k i, aH (m_get A e n w) e k i = true → aH (m_put A e n w) e k i = true) ∧ aH (m_get A e n w) e 0 = aH (m_put A e n w) e 0 := by
  obtain ⟨d1, d2, d3, d4⟩ := drop_no hd
  have hJ := JC_put hW h d1 d2 d3 d4 hw
  obtain ⟨i1, i2, i3, i4, i5⟩ := h
  have hIN : IN A e H od := ⟨i1, i2, i3, i4, i5⟩
  have hput : qC (m_put A e n w) e (c + 1) := by
    obtain ⟨q1, q2, q3⟩ := hq
    have := cHd_put (A := A) (e := e) (n := n) (w := w)
    refine ⟨?_, fun s hs => ?_, q3⟩
    · show (aR A e).length + cHd (m_put A e n w) e ≤ c + 1
      omega
    · have := q2 s hs
      show aN A e (23 + s) + cHd (m_put A e n w) e ≤ c + 1
      omega
  have hbM : bM (m_put A e n w) e := by
    refine IJ_bM hW hJ.1 hJ.2.1 (fun m hm => ?_) hH (by have := hput.1; omega) h5
    rw [put_H (by omega)] at hm
    show aN A e 5 < m + 4
    by_cases hz : m = n
    · omega
    · rw [if_neg hz] at hm
      exact IN_late hW hIN hm
  have hn0 : n0 A e ≤ aN A e 5 + 17 ∧ 1 ≤ n0 A e := by unfold n0; omega
  have had : ∀ m, aH (m_put A e n w) e 0 m = true → 1 ≤ m ∧ m ≤ aN A e 5 + 16 ∧ m ≤ H.length := fun m hm => by
    rw [put_H (by omega)] at hm
    by_cases hz : m = n
    · have := (List.getElem?_eq_some_iff.mp hw).1
      omega
    · rw [if_neg hz] at hm
      exact i3 m hm
  have hL1 : aN A e 5 ≤ runN (aH (m_put A e n w) e 0) (aN A e 5) 544 := runN_ge _ _ _
  have hL2 : runN (aH (m_put A e n w) e 0) (aN A e 5) 544 ≤ aN A e 5 + 16 := runN_le _ _ (fun m hm => (had m hm).2.1) 544 _ (by omega)
  obtain ⟨c1, c2, c3, c4⟩ := chain hW h5 hL1 (aN A e 5 + 17 - n0 A e) (n0 A e) (m_put A e n w) hJ rfl (by omega) hn0.2 544 (by have := cHd_le (m_put A e n w) e; omega)
  rw [passC_eq] at c1 c2 c3 c4
  have hall : ∀ m, 1 ≤ m → m ≤ runN (aH (m_put A e n w) e 0) (aN A e 5) 544 → aH (m_put A e n w) e 0 m = true := fun m m1 m2 => by
    by_cases hz : m ≤ aN A e 5
    · rw [put_H (by omega), i2 m m1 hz]
      split <;> rfl
    · exact runN_all _ 544 _ m (by omega) m2
  have hgk : gOK A e n w := by
    refine ⟨hbM, c1, fun m hm => ?_, fun m hm => (had m hm).2.1⟩
    exact held_late hW c2 (fun k k1 k2 => by rw [pass_H0]; exact hall k k1 k2) c4 hm
  have hget : m_get A e n w = sN (m_pass (m_put A e n w) e (n0 A e) (aN A e 5 + 17 - n0 A e)) e 5 (runN (aH (m_put A e n w) e 0) (aN A e 5) 544) := by
    unfold m_get
    rw [if_neg hd]
    exact c1
  have hH0 : aH (m_get A e n w) e 0 = aH (m_put A e n w) e 0 := by
    rw [hget]
    exact pass_H0 _
  have h55 : aN (m_get A e n w) e 5 = runN (aH (m_put A e n w) e 0) (aN A e 5) 544 := by
    rw [hget]
    exact up2_eq
  refine ⟨hgk, ⟨⟨?_, fun m m1 m2 => ?_, fun m hm => ?_, ?_, fun f => ?_⟩, ?_, ?_⟩, fun k i hk => ?_, hH0⟩
  · rw [hget]
    exact IJ_5 c2
  · rw [hH0]
    rw [h55] at m2
    exact hall m m1 m2
  · rw [hH0] at hm
    rw [h55]
    have := had m hm
    omega
  · rw [hH0, h55]
    exact runN_stop _ 544 _ (by omega)
  · rw [hget]
    exact fun z => c4 f (Cd_5.mp z)
  · have hp := qC_pass (n := n0 A e) hbM hput (aN A e 5 + 17 - n0 A e)
    rw [hget]
    refine ⟨hp.1, fun s hs => ?_, hp.2.2⟩
    have := hp.2.1 s hs
    rw [show ∀ B : MA, aN (sN B e 5 (runN (aH (m_put A e n w) e 0) (aN A e 5) 544)) e (23 + s) = aN B e (23 + s) from fun B => up2_ne2 (by omega)]
    exact this
  · rw [hget]
    exact gF_trans gF_put (gF_trans (gF_pass hbM _) gF_5)
  · rw [hget] at hk
    have : ∀ j, aH (m_pass (m_put A e n w) e (n0 A e) j) e k i = true → aH (m_put A e n w) e k i = true := by
      intro j
      induction j with
      | zero => exact fun z => z
      | succ j ih =>
        intro z
        rw [m_pass, m_stp] at z
        split at z
        · exact ih (move_Hs z)
        · exact ih z
    exact this _ hk
