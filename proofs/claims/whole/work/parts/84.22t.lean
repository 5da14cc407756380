theorem cntN_mono {f g : Nat → Bool} {a : Nat} (h : ∀ n, g n = true → f n = true) : ∀ k, cntN g a k ≤ cntN f a k
  | 0 => Nat.le_refl _
  | k + 1 => by
    have ih := cntN_mono (a := a) h k
    rw [cntN, cntN]
    by_cases hg : g (a + k + 1) = true
    · rw [if_pos hg, if_pos (h _ hg)]
      omega
    · rw [if_neg hg]
      omega
theorem cntN_lt {f g : Nat → Bool} {a n : Nat} (h : ∀ n, g n = true → f n = true) (h1 : a < n) (hf : f n = true) (hg : g n = false) : ∀ k, n ≤ a + k → cntN g a k < cntN f a k
  | 0 => fun hk => by omega
  | k + 1 => fun hk => by
    rw [cntN, cntN]
    by_cases hz : n = a + k + 1
    · subst hz
      have := cntN_mono (a := a) h k
      rw [hg, hf, if_pos rfl, if_neg (by decide)]
      omega
    · have := cntN_lt h h1 hf hg k (by omega)
      by_cases hy : g (a + k + 1) = true
      · rw [if_pos hy, if_pos (h _ hy)]
        omega
      · rw [if_neg hy]
        omega
theorem cntN_pos {f : Nat → Bool} {a n : Nat} (h1 : a < n) (hf : f n = true) (k : Nat) (hk : n ≤ a + k) : 0 < cntN f a k := by
  have := cntN_lt (g := fun _ => false) (f := f) (fun _ h => by cases h) h1 hf rfl k hk
  omega
theorem cHd_pos {A : MA} {e : Nat} (hb : bW A e) : ∀ n, aH A e 1 n = true → 0 < cHd A e := fun n hn => by
  obtain ⟨q1, _, _, q4⟩ := hb.2.2.1 n hn
  exact cntN_pos (by omega) hn _ (by omega)
theorem m_move_H (A : MA) (e n m : Nat) : aH (m_move A e n m) = fun x k i => if x = e ∧ k = 1 ∧ n ≤ i ∧ i < n + m then false else aH A x k i := by
  unfold m_move
  dsimp only
theorem m_move_W (A : MA) (e n m : Nat) : aW (m_move A e n m) = aW A := by
  unfold m_move
  dsimp only
  split <;> rfl
theorem m_move_R (A : MA) (e n m : Nat) : aR (m_move A e n m) = up1 (aR A) e (aR A e ++ [((aW A e n).2.1, (aW A e n).1, m)]) := by
  unfold m_move
  dsimp only
theorem m_move_N (A : MA) (e n m : Nat) (x i : Nat) : aN (m_move A e n m) x i = if x = e ∧ i = 23 + (aW A e n).2.1 then aN A e (23 + (aW A e n).2.1) + 1 else if (x = e ∧ i = 16 + (aW A e n).2.1) ∧ (aW A e n).2.2.2.2.2 = false then aN A e (16 + (aW A e n).2.1) + 1 else aN A x i := by
  unfold m_move
  dsimp only
  cases hl : (aW A e n).2.2.2.2.2 with
  | false =>
    rw [if_neg (by decide)]
    show up2 (up2 (aN A) e (16 + (aW A e n).2.1) (aN A e (16 + (aW A e n).2.1) + 1)) e (23 + (aW A e n).2.1) (aN A e (23 + (aW A e n).2.1) + 1) x i = _
    unfold up2
    by_cases h1 : x = e ∧ i = 23 + (aW A e n).2.1
    · rw [if_pos h1, if_pos h1]
    · rw [if_neg h1, if_neg h1]
      by_cases h2 : x = e ∧ i = 16 + (aW A e n).2.1
      · rw [if_pos h2, if_pos ⟨h2, rfl⟩]
      · rw [if_neg h2, if_neg (fun z => h2 z.1)]
  | true =>
    rw [if_pos rfl]
    show up2 (aN A) e (23 + (aW A e n).2.1) (aN A e (23 + (aW A e n).2.1) + 1) x i = _
    unfold up2
    by_cases h1 : x = e ∧ i = 23 + (aW A e n).2.1
    · rw [if_pos h1, if_pos h1]
    · rw [if_neg h1, if_neg h1, if_neg (fun z => by cases z.2)]
theorem cHd_move {A : MA} {e n m : Nat} (hh : aH A e 1 n = true) (h1 : 1 ≤ n) (h2 : n < 544) (hm : 0 < m) : cHd (m_move A e n m) e < cHd A e := by
  unfold cHd
  rw [m_move_H]
  refine cntN_lt (n := n) (fun k hk => ?_) (by omega) hh ?_ _ (by omega)
  · dsimp only at hk
    by_cases hz : e = e ∧ 1 = 1 ∧ n ≤ k ∧ k < n + m
    · rw [if_pos hz] at hk; cases hk
    · rw [if_neg hz] at hk; exact hk
  · exact if_pos ⟨rfl, rfl, Nat.le_refl _, by omega⟩
theorem bW_move {A : MA} {e n m : Nat} (hb : bW A e) (hh : aH A e 1 n = true) (hm : 0 < m) : bW (m_move A e n m) e := by
  obtain ⟨b1, b2, b3, b4, b5⟩ := hb
  obtain ⟨q1, q2, q3, q4⟩ := b3 n hh
  have hc := cHd_move (m := m) hh q4 (by omega) hm
  have n5 : aN (m_move A e n m) e 5 = aN A e 5 := by rw [m_move_N, if_neg (by omega), if_neg (by omega)]
  have hH : ∀ k i, aH (m_move A e n m) e k i = true → aH A e k i = true := by
    intro k i hz
    rw [m_move_H] at hz
    by_cases hy : e = e ∧ k = 1 ∧ n ≤ i ∧ i < n + m
    · dsimp only at hz
      rw [if_pos hy] at hz; cases hz
    · dsimp only at hz
      rw [if_neg hy] at hz; exact hz
  refine ⟨by rw [n5]; exact b1, fun i hi => b2 i (hH 0 i hi), fun i hi => ?_, fun s hs => ?_, fun q hq => ?_⟩
  · rw [m_move_W]
    exact b3 i (hH 1 i hi)
  · rw [m_move_N, if_neg (by omega)]
    have := b4 s hs
    split
    · rename_i hz
      have : s = (aW A e n).2.1 := by omega
      rw [← this]
      omega
    · omega
  · rw [m_move_R, up1_eq] at hq
    rcases List.mem_append.mp hq with hq | hq
    · exact b5 q hq
    · rw [List.mem_singleton.mp hq]
      exact q2
theorem bRd_move {A : MA} {e n m : Nat} (hb : bW A e) (hr : bRd A) (hh : aH A e 1 n = true) (hm : 0 < m) : bRd (m_move A e n m) := by
  obtain ⟨b1, b2, b3, b4, b5⟩ := hb
  obtain ⟨q1, q2, q3, q4⟩ := b3 n hh
  have hc := cHd_move (m := m) hh q4 (by omega) hm
  intro e' he' s' hs'
  have := hr e' he' s' hs'
  rw [m_move_N]
  by_cases hz : e' = e
  · subst hz
    by_cases hy : s' = (aW A e' n).2.1
    · rw [if_pos ⟨rfl, by omega⟩, ← hy]
      omega
    · rw [if_neg (by omega), if_neg (by omega)]
      omega
  · rw [if_neg (fun z => hz z.1), if_neg (fun z => hz z.1.1)]
    have : cHd (m_move A e n m) e' = cHd A e' := by
      unfold cHd
      rw [m_move_H]
      congr 1
      funext i
      exact if_neg (fun z => hz z.1)
    omega
theorem rdy1_some {A A' : MA} {e : Nat} (h : m_rdy1 A e = some A') : ∃ n, A' = m_move A e n (m_whl A e n) ∧ m_cand A e n = true ∧ 0 < n ∧ n ≤ aN A e 5 + 16 := by
  unfold m_rdy1 at h
  by_cases hz : fstN (m_cand A e) 0 (aN A e 5 + 16) ≤ aN A e 5 + 16
  · rw [if_pos hz] at h
    exact ⟨_, (Option.some.inj h).symm, fstN_is _ _ _ (by omega), fstN_gt _ _ _, hz⟩
  · rw [if_neg hz] at h
    cases h
theorem cand_held {A : MA} {e n : Nat} (h : m_cand A e n = true) : aH A e 1 n = true ∧ 0 < m_whl A e n ∧ (aW A e n).2.2.2.1 = true ∧ ((aW A e n).2.2.2.2.2 = true ∨ (aW A e n).2.2.1 = aN A e (16 + (aW A e n).2.1)) := by
  unfold m_cand at h
  simp only [Bool.and_eq_true, Bool.or_eq_true, decide_eq_true_eq] at h
  exact ⟨h.1.1, h.2.1, h.1.2, h.2.2.imp id Nat.eq_of_beq_eq_true⟩
theorem rdy1_b {A A' : MA} {e : Nat} (hb : bW A e) (hr : bRd A) (h : m_rdy1 A e = some A') : bW A' e ∧ bRd A' ∧ cHd A' e < cHd A e := by
  obtain ⟨n, rfl, hc, h1, h2⟩ := rdy1_some h
  obtain ⟨c1, c2, _⟩ := cand_held hc
  obtain ⟨q1, _, _, q4⟩ := hb.2.2.1 n c1
  exact ⟨bW_move hb c1 c2, bRd_move hb hr c1 c2, cHd_move c1 q4 (by omega) c2⟩
theorem m_rdy_st {e : Nat} : ∀ (k : Nat) (A : MA), bW A e → bRd A → cHd A e < k → m_rdy e (k + 1) A = m_rdy e k A
  | 0, A => fun _ _ h => by omega
  | k + 1, A => fun hb hr h => by
    show (match m_rdy1 A e with | none => A | some A' => m_rdy e (k + 1) A') = (match m_rdy1 A e with | none => A | some A' => m_rdy e k A')
    cases hz : m_rdy1 A e with
    | none => rfl
    | some A' =>
      obtain ⟨q1, q2, q3⟩ := rdy1_b hb hr hz
      exact m_rdy_st k A' q1 q2 (by omega)
theorem m_rdy_fin {e : Nat} {A : MA} (hb : bW A e) (hr : bRd A) (j : Nat) : m_rdy e (cHd A e + 1 + j) A = m_rdy e (cHd A e + 1) A := by
  induction j with
  | zero => rfl
  | succ j ih => rw [← Nat.add_assoc, m_rdy_st _ A hb hr (by omega), ih]
theorem T_rdy {A : MA} {T : St} (h : RT A T) {e : Nat} (he : e < 2) (hb : bW A e) (hr : bRd A) (hc : cHd A e < 544) {l2 : Int32} {P : St → Prop} (hP : ∀ T', RT (m_rdy e 544 A) T' → sat (f_M_data_216 0 (I e) l2 T') P) : sat (bd2 (f_M_oneReady 0 (I e) T) (fun r S => f_M_data_201 0 (I e) l2 (r, S))) P := by
  have hfin : m_rdy e 544 A = m_rdy e (cHd A e + 1) A := by
    have := m_rdy_fin hb hr (543 - cHd A e)
    rw [show cHd A e + 1 + (543 - cHd A e) = 544 by omega] at this
    exact this
  -- one turn
  have turn : ∀ C T1, RT C T1 → bW C e → bRd C → m_rdy e (cHd C e + 1) C = m_rdy e 544 A → sat (f_M_oneReady 0 (I e) T1) (fun x => (x.1 = 0 ∧ RT (m_rdy e 544 A) x.2) ∨ (x.1 = 1 ∧ ∃ C', RT C' x.2 ∧ bW C' e ∧ bRd C' ∧ m_rdy e (cHd C' e + 1) C' = m_rdy e 544 A ∧ cHd C' e < cHd C e)) := by
    intro C T1 h1 hb1 hr1 hf1
    refine (T_one h1 he hb1 hr1 (cHd_pos hb1)).imp (fun x hx => ?_)
    unfold rdyR at hx
    cases hz : m_rdy1 C e with
    | none =>
      rw [hz] at hx
      rw [m_rdy, hz] at hf1
      refine Or.inl ⟨hx.1, ?_⟩
      rw [← hf1]
      exact hx.2
    | some C' =>
      rw [hz] at hx
      rw [m_rdy, hz] at hf1
      obtain ⟨q1, q2, q3⟩ := rdy1_b hb1 hr1 hz
      refine Or.inr ⟨hx.1, C', hx.2, q1, q2, ?_, q3⟩
      rw [← hf1]
      have := m_rdy_fin q1 q2 (cHd C e - (cHd C' e + 1))
      rw [show cHd C' e + 1 + (cHd C e - (cHd C' e + 1)) = cHd C e by omega] at this
      exact this.symm
  refine .bd2 (turn A T h hb hr hfin.symm) (fun r S hrS => ?_)
  unfold f_M_data_201
  refine sat_iter (fun j x => (x.1 = 0 ∧ RT (m_rdy e 544 A) x.2) ∨ (x.1 = 1 ∧ ∃ C', RT C' x.2 ∧ bW C' e ∧ bRd C' ∧ m_rdy e (cHd C' e + 1) C' = m_rdy e 544 A ∧ cHd C' e < j)) (P := P) ?_ (i := cHd A e) (by omega) hrS
  rintro j ⟨r1, T1⟩ hx
  unfold f_M_data_201_b
  rcases hx with ⟨e1, h1⟩ | ⟨e1, C, h1, hb1, hr1, hf1, hj⟩
  · replace e1 : r1 = 0 := e1
    dsimp only
    rw [if_pos e1]
    exact .exW (hP T1 h1)
  · replace e1 : r1 = 1 := e1
    subst e1
    dsimp only
    rw [if_neg (by decide)]
    refine .bd2 (turn C T1 h1 hb1 hr1 hf1) (fun r S hrS => .some ⟨cHd C e, hj, hrS⟩)
