theorem eV_gone {A : MA} {e c : Nat} {z : Nat → Nat} (k : eV A e z) (h1 : aN A e 3 ≤ c) (h2 : c ≤ aN A e 4) : eV (sN (sN A e 22 c) e 3 c) e z := by
  obtain ⟨⟨⟨b1, b2, b3, b4, b5, b6, b7, b8⟩, ⟨c1, c2⟩, c3, c4, c5⟩, k2, k3, k4, k5⟩ := k
  have q : ∀ j, j ≠ 22 → j ≠ 3 → aN (sN (sN A e 22 c) e 3 c) e j = aN A e j := fun j hj hj2 => (up2_ne2 hj2).trans (up2_ne2 hj)
  have qe : aN (sN (sN A e 22 c) e 3 c) e 3 = c := up2_eq
  have qf : aN (sN (sN A e 22 c) e 3 c) e 22 = c := (up2_ne2 (by decide)).trans up2_eq
  refine ⟨⟨⟨?_, ?_, ?_, ?_, b5, b6, fun p' hp' => ⟨?_, ?_⟩, b8⟩, ⟨c1, fun s hs => ?_⟩, fun p' hp' => ?_, ?_, c5⟩, fun p' hp' hr => ?_, fun h3 p' hp' => ?_, fun n n1 n2 n3 => ?_, ?_⟩
  · rw [q 2 (by omega) (by omega)]; exact b1
  · rw [qe, q 4 (by omega) (by omega)]; exact h2
  · rw [qe, q 4 (by omega) (by omega)]; omega
  · rw [q 4 (by omega) (by omega)]; exact b4
  · rw [q _ (by omega) (by omega)]; exact (b7 p' hp').1
  · rw [q _ (by omega) (by omega)]; exact (b7 p' hp').2
  · rw [q _ (by omega) (by omega)]; exact c2 s hs
  · rw [q _ (by omega) (by omega)]; exact c3 p' hp'
  · rw [q 0 (by omega) (by omega)]; exact c4
  · rw [q _ (by omega) (by omega)]; exact k2 p' hp' hr
  · rw [q _ (by omega) (by omega)]; exact k3 h3 p' hp'
  · rw [qe] at n1
    rw [q 4 (by omega) (by omega)] at n2
    exact k4 n (by omega) n2 n3
  · rw [qe, qf]
theorem lF_gone {A : MA} {e c : Nat} (h1 : aN A e 3 ≤ c) : lF e A (sN (sN A e 22 c) e 3 c) := by
  refine ⟨⟨.trans fr_sN fr_sN, rfl, rfl⟩, fun _ _ => rfl, fun j hj => (up2_ne2 (by omega)).trans (up2_ne2 (by omega)), ?_, fun _ => rfl, rfl, rfl, rfl⟩
  rw [show aN (sN (sN A e 22 c) e 3 c) e 3 = c from up2_eq]
  exact h1
theorem eV_stop {A : MA} {e p : Nat} {z z' : Nat → Nat} (k : eV A e z) (hp : p < 2) (hn : ∀ n, aN A e 3 < n → n ≤ aN A e 4 → oSt A e n = 2 → oPa A e n ≠ p) (hz : ∀ q, q < 2 → q ≠ p → z' q = z q) : eV (sB A e (2 + p) false) e z' := by
  obtain ⟨k1, k2, k3, k4, k5⟩ := k
  have q : ∀ j, j ≠ 2 + p → aB (sB A e (2 + p) false) e j = aB A e j := fun j hj => up2_ne2 hj
  have qe : aB (sB A e (2 + p) false) e (2 + p) = false := up2_eq
  refine ⟨k1, fun p' hp' hr => ?_, k3, fun n n1 n2 n3 => ?_, k5⟩
  · by_cases h : p' = p
    · subst h; rw [qe] at hr; cases hr
    · rw [q _ (by omega)] at hr
      rw [hz p' hp' h]
      exact k2 p' hp' hr
  · have a := hn n n1 n2 n3
    show aB (sB A e (2 + p) false) e (2 + oPa A e n) = true
    rw [q _ (by omega)]
    exact k4 n n1 n2 n3
theorem cOut_no {A : MA} {e p : Nat} (h : cOut A e p = 0) (hb : bO A e) : ∀ n, aN A e 3 < n → n ≤ aN A e 4 → oSt A e n = 2 → oPa A e n ≠ p := by
  intro n n1 n2 n3 hz
  have h2 := hb.2.1
  have := cntN_pos (f := fun n => decide (oSt A e n = 2) && Nat.beq (oPa A e n) p) n1 (by
    show (decide (oSt A e n = 2) && Nat.beq (oPa A e n) p) = true
    rw [decide_eq_true n3, hz, Nat.beq_refl]; rfl) (m_len A e) (by show n ≤ aN A e 3 + (aN A e 4 - aN A e 3); omega)
  unfold cOut at h
  omega
theorem cntN_ex {f : Nat → Bool} {a : Nat} : ∀ k, cntN f a k ≠ 0 → ∃ n, a < n ∧ n ≤ a + k ∧ f n = true
  | 0 => fun h => absurd rfl h
  | k + 1 => fun h => by
    rw [cntN] at h
    by_cases hf : f (a + k + 1) = true
    · exact ⟨a + k + 1, by omega, by omega, hf⟩
    · rw [if_neg hf] at h
      obtain ⟨n, n1, n2, n3⟩ := cntN_ex k (by omega)
      exact ⟨n, n1, by omega, n3⟩
theorem cOut_runs {A : MA} {e p : Nat} {z : Nat → Nat} (k : eV A e z) (h : cOut A e p ≠ 0) : aB A e (2 + p) = true := by
  unfold cOut at h
  obtain ⟨n, n1, n2, n3⟩ := cntN_ex _ h
  rw [Bool.and_eq_true, decide_eq_true_iff] at n3
  have hp := Nat.eq_of_beq_eq_true n3.2
  have h2 := k.1.1.2.1
  have n2' : n ≤ aN A e 3 + (aN A e 4 - aN A e 3) := n2
  have := k.2.2.2.1 n n1 (by omega) n3.1
  rw [hp] at this
  exact this
/-- a light step that posts nothing -/
def lQ (e : Nat) (z z' : Nat → Nat) (A B : MA) : Prop := lF e A B ∧ eV B e z' ∧ aP B = aP A
theorem eV_rew {A : MA} {e p : Nat} {b : Bool} {z : Nat → Nat} (k : eV A e z) (hp : p < 2) : lQ e z z A (m_rew A e p b) := by
  cases b with
  | false => exact ⟨lF_refl e A, k, rfl⟩
  | true =>
    unfold m_rew
    refine ⟨.trans (.trans (.trans (.trans (lF_I3 (by omega)) (lF_I3 (by omega))) (lF_N (by omega))) (lF_N (by omega))) lF_B, ?_, rfl⟩
    refine eV_B (eV_N (eV_N (eV_I3 (eV_I3 k (by omega)) (by omega)) ?_) ?_) (by omega)
    · exact Or.inr (Or.inr (Or.inl ⟨by omega, by omega, by omega, by omega⟩))
    · exact Or.inr (Or.inl ⟨by omega, by omega, by omega⟩)
theorem eV_str1 {A : MA} {e n : Nat} {z : Nat → Nat} (k : eV A e z) : lQ e z z A (m_str1 A e n) := by
  have b5 := k.1.1.2.2.2.2.1
  have b6 := k.1.1.2.2.2.2.2.1
  have b7 := k.1.1.2.2.2.2.2.2.1
  unfold m_str1
  split
  · rename_i hc
    split
    · refine ⟨.trans (lF_O (fun m => ?_) (fun x hx => up2_row hx)) (lF_N (by have := b5 n; omega)), eV_N (eV_O k (fun m => ?_) (fun m => ?_) (fun m hm _ => ?_)) ?_, rfl⟩
      · unfold up2; split
        · rename_i hh; rw [hh.2]
        · rfl
      · unfold up2; split
        · exact b5 n
        · exact b5 m
      · unfold up2; split
        · exact Nat.zero_le _
        · exact b6 m
      · unfold up2 at hm ⊢; split at hm
        · exact absurd hm (by show ¬ (3 : Int32) = 2; decide)
        · rename_i hh; rw [if_neg hh]; exact ⟨hm, rfl⟩
      · have h5 := b5 n
        have := (b7 _ h5).1
        exact Or.inr (Or.inl ⟨by omega, by omega, by omega⟩)
    · rename_i hne
      refine ⟨lF_O (fun m => ?_) (fun x hx => up2_row hx), eV_O k (fun m => ?_) (fun m => ?_) (fun m hm _ => ?_), rfl⟩
      · unfold up2; split
        · rename_i hh; rw [hh.2]
        · rfl
      · unfold up2; split
        · exact b5 n
        · exact b5 m
      · unfold up2; split
        · have := b6 n
          show oSk A e n + 1 ≤ 2
          omega
        · exact b6 m
      · unfold up2 at hm ⊢; split at hm
        · rename_i hh; rw [if_pos hh, hh.2]; exact ⟨hc.2, rfl⟩
        · rename_i hh; rw [if_neg hh]; exact ⟨hm, rfl⟩
  · exact ⟨lF_refl e A, k, rfl⟩
theorem eV_strk {A : MA} {e : Nat} {z : Nat → Nat} (k : eV A e z) : ∀ j, lQ e z z A (m_strk A e j)
  | 0 => ⟨lF_refl e A, k, rfl⟩
  | j + 1 => by
    obtain ⟨a, b, c⟩ := eV_strk k j
    obtain ⟨x, y, w⟩ := eV_str1 (n := aN A e 3 + j + 1) b
    exact ⟨a.trans x, y, w.trans c⟩
theorem eV_set1 {A : MA} {e p : Nat} {b : Bool} {z : Nat → Nat} (k : eV A e z) (hp : p < 2) (hz : z p ≤ 1) (h3 : aI A e 0 = 3) : lQ e z z A (m_set1 A e p b) := by
  have hw := k.2.2.1 h3 p hp
  have hw2 := (k.1.1.2.2.2.2.2.2.1 p hp).2
  have h8 := k.1.1.2.2.2.2.2.2.2
  unfold m_set1
  split
  · rename_i hc
    exact ⟨lF_B, eV_stop k hp (cOut_no hc k.1.1) (fun _ _ _ => rfl), rfl⟩
  · cases b with
    | true => exact ⟨lF_N (by omega), eV_set k hp (by omega) (by omega), rfl⟩
    | false => exact ⟨lF_refl e A, k, rfl⟩
theorem eV_sack1 {A : MA} {e c : Nat} {g w : Int32} {z : Nat → Nat} (k : eV A e z) (h1 : aN A e 3 ≤ c) (h2 : c ≤ aN A e 4) : lQ e z z A (m_sack1 A e c g w) := by
  have b5 := k.1.1.2.2.2.2.1
  have b6 := k.1.1.2.2.2.2.2.1
  have hh : eV (m_hold A e c g) e z := by
    refine eV_O k (fun m => ?_) (fun m => ?_) (fun m hm _ => ?_)
    · split
      · exact b5 m
      · exact b5 m
    · split
      · exact b6 m
      · exact b6 m
    · split at hm
      · exact absurd hm (by show ¬ (4 : Int32) = 2; decide)
      · rename_i hh; rw [if_neg hh]; exact ⟨hm, rfl⟩
  have hf : lF e A (m_hold A e c g) := by
    refine lF_O (fun m => ?_) (fun x hx => funext (fun m => if_neg (fun z => hx z.1)))
    split
    · rfl
    · rfl
  unfold m_sack1
  exact ⟨hf.trans ((lF_gone (A := m_hold A e c g) h1).trans (lF_I3 (i := 5) (by decide))), eV_I3 (i := 5) (eV_gone hh h1 h2) (by decide), rfl⟩
/-- up to the strikes -/
def m_sackM (A : MA) (e c : Nat) (g w : Int32) : MA := m_strk (m_rew (m_rew (m_sack1 A e c g w) e 0 (m_good A e c g 0)) e 1 (m_good A e c g 1)) e (topB g 16)
theorem eV_sackM {A : MA} {e c : Nat} {g w : Int32} {z : Nat → Nat} (k : eV A e z) (h1 : aN A e 3 ≤ c) (h2 : c ≤ aN A e 4) : lQ e z z A (m_sackM A e c g w) := by
  obtain ⟨a1, a2, a3⟩ := eV_sack1 (g := g) (w := w) k h1 h2
  obtain ⟨b1, b2, b3⟩ := eV_rew (p := 0) (b := m_good A e c g 0) a2 (by decide)
  obtain ⟨c1, c2, c3⟩ := eV_rew (p := 1) (b := m_good A e c g 1) b2 (by decide)
  obtain ⟨d1, d2, d3⟩ := eV_strk c2 (topB g 16)
  exact ⟨a1.trans (b1.trans (c1.trans d1)), d2, d3.trans (c3.trans (b3.trans a3))⟩
theorem eV_sack2 {A : MA} {e c : Nat} {g w : Int32} {z : Nat → Nat} (k : eV A e z) (hz : ∀ p, p < 2 → z p ≤ 1) (h3 : aI A e 0 = 3) (h1 : aN A e 3 ≤ c) (h2 : c ≤ aN A e 4) : lQ e z z A (m_sack2 A e c g w) := by
  obtain ⟨a1, a2, a3⟩ := eV_sackM (g := g) (w := w) k h1 h2
  obtain ⟨b1, b2, b3⟩ := eV_set1 (p := 0) (b := m_good A e c g 0) a2 (by decide) (hz 0 (by decide)) ((a1.2.1 0 (by decide)).trans h3)
  obtain ⟨c1, c2, c3⟩ := eV_set1 (p := 1) (b := m_good A e c g 1) b2 (by decide) (hz 1 (by decide)) ((b1.2.1 0 (by decide)).trans ((a1.2.1 0 (by decide)).trans h3))
  exact ⟨a1.trans (b1.trans c1), c2, c3.trans (b3.trans a3)⟩
theorem K_lQ {A B : MA} {c e : Nat} {G : HG} {O : HO} {z z' : ZZ} (k : K A c G O z) (h : lQ e (z e) (z' e) A B) (hz2 : z' e 2 = z e 2) (hz : ∀ x, x ≠ e → z' x = z x) : K B c G O z' := K_lF k h.1 h.2.1 hz2 hz (pK_P h.2.2 h.1.1.2.1 k.1.2.1)
theorem K_sack {A : MA} {c e n : Nat} {g w : Int32} {G : HG} {O : HO} {z : ZZ} (k : K A c G O z) (he : e < 2) (hz : ∀ p, p < 2 → z e p ≤ 1) (h3 : aI A e 0 = 3) (h1 : aN A e 22 ≤ n) (h2 : n ≤ aN A e 4) : K (m_sack A e n g w) c G O z := by
  have hv := (k.2 e he).1
  have h := eV_sack2 (g := g) (w := w) hv hz h3 (hv.2.2.2.2 ▸ h1) h2
  unfold m_sack
  exact K_sendAll he hz 64 _ (K_lQ (z := z) (z' := z) k h rfl (fun _ _ => rfl)) ((h.1.2.1 0 (by decide)).trans h3)
theorem K_beatAck {A : MA} {c e p : Nat} {t : Int32} {G : HG} {O : HO} {z : ZZ} (k : K A c G O z) (he : e < 2) (hp : p < 2) : K (m_beatAck A e p t) c G O z := by
  have hv := (k.2 e he).1
  unfold m_beatAck
  split
  · exact K_lQ (e := e) (z := z) (z' := z) k ⟨.trans (.trans (.trans lF_B lF_B) (lF_I3 (by omega))) (lF_I3 (by omega)), eV_I3 (eV_I3 (eV_B (eV_B hv (by omega)) (by omega)) (by omega)) (by omega), rfl⟩ rfl (fun _ _ => rfl)
  · exact k
/-- an end that is emptied -/
theorem empty_N (A : MA) (e i : Nat) : aN (m_empty A e) e i = m_eN A e i := if_pos rfl
theorem empty_B (A : MA) (e i : Nat) : aB (m_empty A e) e i = m_eB A e i := if_pos rfl
theorem empty_H {A : MA} {e : Nat} (h : ∀ k n, 544 ≤ n → aH A e k n = false) : ∀ k, k < 2 → ∀ n, aH (m_empty A e) e k n = false := fun k hk n => by
  show (if e = e ∧ k < 2 ∧ n < 544 then false else aH A e k n) = false
  split
  · rfl
  · exact h k n (by omega)
theorem empty_H5 {A : MA} {e : Nat} (h : ∀ k n, 544 ≤ n → aH A e k n = false) : ∀ k n, 544 ≤ n → aH (m_empty A e) e k n = false := fun k n hn => by
  show (if e = e ∧ k < 2 ∧ n < 544 then false else aH A e k n) = false
  split
  · rfl
  · exact h k n hn
theorem cntN_0 {f : Nat → Bool} (h : ∀ n, f n = false) : ∀ k a, cntN f a k = 0
  | 0, a => rfl
  | k + 1, a => by rw [cntN, cntN_0 h k a, if_neg (by rw [h]; decide)]
theorem eV_empty {A : MA} {e : Nat} {z : Nat → Nat} (k : bE A e) : eV (m_empty A e) e z := by
  refine ⟨bE_empty k, fun p hp hr => ?_, fun _ p hp => ?_, fun n n1 n2 _ => ?_, ?_⟩
  · rw [empty_B] at hr
    have : p = 0 ∨ p = 1 := by omega
    rcases this with rfl | rfl <;> exact absurd hr (by show ¬ (false = true); decide)
  · rw [empty_N]
    have : p = 0 ∨ p = 1 := by omega
    rcases this with rfl | rfl <;> exact (by show 1 ≤ 3; decide)
  · rw [empty_N] at n1 n2
    have n2' : n ≤ 0 := n2
    omega
  · rw [empty_N, empty_N]
    rfl
theorem eC_empty {A : MA} {e c : Nat} {z z' : Nat → Nat} (k : eC A e c z) (h0 : ¬ (aI A e 0 = 1 ∨ aI A e 0 = 2)) : eC (m_empty A e) e c z' := by
  obtain ⟨⟨k1, k2, k3⟩, ⟨k4, k5, k6⟩, k7, k8, q1, q2, q3⟩ := k
  have hH := empty_H k7
  have c1 : cHd (m_empty A e) e = 0 := cntN_0 (hH 1 (by decide)) _ _
  have c0 : cHa (m_empty A e) e = 0 := cntN_0 (hH 0 (by decide)) _ _
  refine ⟨⟨k1, ?_, fun s hs => ?_⟩, ⟨fun hs => absurd hs ?_, ?_, k6⟩, empty_H5 k7, by omega, ?_, fun s hs => ?_, q3⟩
  · rw [empty_N]; exact Nat.zero_le _
  · rw [empty_N]
    have : s = 0 ∨ s = 1 ∨ s = 2 := by omega
    rcases this with rfl | rfl | rfl <;> exact Nat.zero_le _
  · show ¬ ((if e = e then m_eI A e 0 else aI A e 0) = 1 ∨ (if e = e then m_eI A e 0 else aI A e 0) = 2)
    rw [if_pos rfl]
    exact h0
  · rw [empty_N]; exact k5
  · rw [c1]
    show (aR A e).length + 0 ≤ c
    omega
  · rw [c1, empty_N]
    have := q2 s hs
    have : s = 0 ∨ s = 1 ∨ s = 2 := by omega
    rcases this with rfl | rfl | rfl
    · show aN A e (23 + 0) + 0 ≤ c; omega
    · show aN A e (23 + 1) + 0 ≤ c; omega
    · show aN A e (23 + 2) + 0 ≤ c; omega
