/-! Histories grow by messages. -/
theorem Ms_app {H X : List WC} {f m s o : Nat} {l : Bool} (h : Ms H f m s o l) : Ms (H ++ X) f m s o l := by
  refine ⟨h.1, fun j hj => ?_⟩
  obtain ⟨v, hv⟩ := h.2 j hj
  refine ⟨v, ?_⟩
  rw [List.getElem?_append_left (List.getElem?_eq_some_iff.mp hv).1]
  exact hv
theorem Ms_old {H X : List WC} {od : Nat → Nat} (hW : WF H od) {f m s o n : Nat} {l : Bool} (h : Ms (H ++ X) f m s o l) (h1 : f ≤ n) (h2 : n < f + m) (hn : n ≤ H.length) : Ms H f m s o l := by
  obtain ⟨f', m', s', o', l', hM, a, b, _, _⟩ := hW.1 n (by have := h.1; omega) hn
  obtain ⟨rfl, rfl, rfl, rfl, rfl⟩ := Ms_uniq (Ms_app (X := X) hM) h a b h1 h2
  exact hM
def newW (v : Int32) (s o : Nat) (lo : Bool) (m : Nat) : List WC := (List.range m).map (fun k => (v + I k, s, o, Nat.beq k 0, Nat.beq (k + 1) m, lo))
theorem newW_len (v : Int32) (s o : Nat) (lo : Bool) (m : Nat) : (newW v s o lo m).length = m := by
  unfold newW
  rw [List.length_map, List.length_range]
theorem newW_at (v : Int32) (s o : Nat) (lo : Bool) (m : Nat) {k : Nat} (hk : k < m) : (newW v s o lo m)[k]? = some (v + I k, s, o, Nat.beq k 0, Nat.beq (k + 1) m, lo) := by
  unfold newW
  rw [List.getElem?_map, List.getElem?_range hk]
  rfl
theorem Ms_new (H : List WC) (v : Int32) (s o : Nat) (lo : Bool) {m : Nat} (h1 : 1 ≤ m) (h2 : m ≤ 4) : Ms (H ++ newW v s o lo m) (H.length + 1) m s o lo := by
  refine ⟨⟨by omega, h1, h2⟩, fun j hj => ⟨v + I j, ?_⟩⟩
  rw [List.getElem?_append_right (by omega), show H.length + 1 + j - 1 - H.length = j by omega]
  exact newW_at v s o lo m hj
theorem WF_nil : WF [] (fun _ => 0) := by
  refine ⟨fun n h1 h2 => ?_, fun f m s o f' m' o' h => ?_, fun s o _ h => ?_, fun f m s o h => ?_, fun s _ => Nat.zero_le _⟩
  · have : ([] : List WC).length = 0 := rfl
    omega
  · have := Ms_len h
    have := h.1
    have : ([] : List WC).length = 0 := rfl
    omega
  · exact absurd h (Nat.not_lt_zero o)
  · have := Ms_len h
    have := h.1
    have : ([] : List WC).length = 0 := rfl
    omega
/-- the orders behind a message -/
def odS (od : Nat → Nat) (s : Nat) (lo : Bool) : Nat → Nat := fun t => if t = s ∧ lo = false then od t + 1 else od t
def odO (od : Nat → Nat) (s : Nat) (lo : Bool) : Nat := if lo = true then 0 else od s
theorem WF_add {H : List WC} {od : Nat → Nat} (hW : WF H od) (v : Int32) {s m : Nat} (lo : Bool) (hs : s < 3) (h1 : 1 ≤ m) (h2 : m ≤ 4) : WF (H ++ newW v s (odO od s lo) lo m) (odS od s lo) := by
  have hN := Ms_new H v s (odO od s lo) lo h1 h2
  have hlen : (H ++ newW v s (odO od s lo) lo m).length = H.length + m := by rw [List.length_append, newW_len]
  have hch : ∀ f m' s' o' l', Ms (H ++ newW v s (odO od s lo) lo m) f m' s' o' l' → Ms H f m' s' o' l' ∨ (f = H.length + 1 ∧ m' = m ∧ s' = s ∧ o' = odO od s lo ∧ l' = lo) := by
    intro f m' s' o' l' hM
    have a := Ms_len hM
    have b := hM.1
    by_cases hz : f ≤ H.length
    · exact Or.inl (Ms_old hW hM (Nat.le_refl f) (by omega) hz)
    · obtain ⟨e1, e2, e3, e4, e5⟩ := Ms_uniq hN hM (n := f) (by omega) (by omega) (Nat.le_refl f) (by omega)
      exact Or.inr ⟨e1.symm, e2.symm, e3.symm, e4.symm, e5.symm⟩
  obtain ⟨w1, w2, w3, w4, w5⟩ := hW
  refine ⟨fun n n1 n2 => ?_, fun f m1 t o f' m2 o' hM hM' hlt => ?_, fun t o ht ho => ?_, fun f m1 t o hM => ?_, fun t ht => ?_⟩
  · by_cases hz : n ≤ H.length
    · obtain ⟨f, k, t, o, l, hM, r⟩ := w1 n n1 hz
      exact ⟨f, k, t, o, l, Ms_app hM, r⟩
    · refine ⟨_, _, _, _, _, hN, by omega, by omega, hs, ?_⟩
      unfold odO
      have := w5 s hs
      split <;> omega
  · rcases hch _ _ _ _ _ hM with a | ⟨a1, a2, a3, a4, a5⟩
    · rcases hch _ _ _ _ _ hM' with b | ⟨b1, b2, b3, b4, b5⟩
      · exact w2 f m1 t o f' m2 o' a b hlt
      · subst b3 b5
        rw [b4]
        exact w4 f m1 t o a
    · rcases hch _ _ _ _ _ hM' with b | ⟨b1, b2, b3, b4, b5⟩
      · have := Ms_len b
        have := b.1
        omega
      · omega
  · unfold odS at ho
    by_cases hz : t = s ∧ lo = false
    · rw [if_pos hz] at ho
      obtain ⟨rfl, rfl⟩ := hz
      by_cases hz2 : o < od t
      · obtain ⟨f, k, hM⟩ := w3 t o ht hz2
        exact ⟨f, k, Ms_app hM⟩
      · have : o = od t := by omega
        subst this
        exact ⟨_, _, hN⟩
    · rw [if_neg hz] at ho
      obtain ⟨f, k, hM⟩ := w3 t o ht ho
      exact ⟨f, k, Ms_app hM⟩
  · rcases hch _ _ _ _ _ hM with a | ⟨a1, a2, a3, a4, a5⟩
    · have := w4 f m1 t o a
      unfold odS
      split <;> omega
    · subst a3 a5
      rw [a4]
      show odO od t false < odS od t false t
      have q1 : odO od t false = od t := if_neg (by decide)
      have q2 : odS od t false t = od t + 1 := if_pos ⟨rfl, rfl⟩
      omega
  · rw [hlen]
    have := w5 t ht
    unfold odS
    split <;> omega
theorem odS_le (od : Nat → Nat) (s : Nat) (lo : Bool) (t : Nat) : od t ≤ odS od s lo t := by
  unfold odS
  split <;> omega
theorem IN_mono {A : MA} {e : Nat} {H X : List WC} {od od' : Nat → Nat} (hW : WF H od) (hW' : WF (H ++ X) od') (ho : ∀ t, od t ≤ od' t) (h : IN A e H od) : IN A e (H ++ X) od' := by
  obtain ⟨⟨j1, j2, j3, j4⟩, i2, i3, i4, i5⟩ := h
  have hl : H.length ≤ (H ++ X).length := by rw [List.length_append]; omega
  refine ⟨⟨fun n hn => ?_, fun f m s o l hM n n' a b a' b' z1 z2 => ?_, fun f m s o hM n a b => ⟨fun hn => ?_, fun z1 z2 => ?_, fun z => ?_⟩, fun s hs => Nat.le_trans (j4 s hs) (ho s)⟩, i2, fun n hn => ?_, i4, fun f hc => ?_⟩
  · obtain ⟨a, b, c⟩ := j1 n hn
    refine ⟨a, b, ?_⟩
    rw [List.getElem?_append_left (List.getElem?_eq_some_iff.mp c).1]
    exact c
  · exact j2 f m s o l (Ms_old hW hM a b (i3 n z1).2.2) n n' a b a' b' z1 z2
  · exact (j3 f m s o (Ms_old hW hM a b (i3 n (j1 n hn).1).2.2) n a b).1 hn
  · exact (j3 f m s o (Ms_old hW hM a b (i3 n z1).2.2) n a b).2.1 z1 z2
  · have hs := (WF_s hW' hM).1
    obtain ⟨f', m', hM'⟩ := hW.2.2.1 s o hs (by have := j4 s hs; omega)
    have hff := WF_o hW' (Ms_app (X := X) hM') hM
    subst hff
    have hmm := (Ms_same (Ms_app (X := X) hM') hM).1
    subst hmm
    exact (j3 f' m' s o hM' n a b).2.2 z
  · have := i3 n hn
    omega
  · obtain ⟨m, s, o, l, hM, k1, k2⟩ := hc
    have hb := hM.1
    have h0 := i3 _ (j1 _ (k1 0 (by omega))).1
    exact i5 f ⟨m, s, o, l, Ms_old hW hM (n := f) (Nat.le_refl f) (by omega) (by omega), k1, k2⟩
theorem IN_fresh {A : MA} {e : Nat} {H : List WC} {od : Nat → Nat} (h0 : ∀ k, k < 2 → ∀ n, aH A e k n = false) (h5 : aN A e 5 = 0) (h16 : ∀ s, s < 3 → aN A e (16 + s) = 0) (hW : WF H od) : IN A e H od := by
  have f0 : ∀ n, aH A e 0 n = true → False := fun n hn => by rw [h0 0 (by omega)] at hn; cases hn
  have f1 : ∀ n, aH A e 1 n = true → False := fun n hn => by rw [h0 1 (by omega)] at hn; cases hn
  refine ⟨⟨fun n hn => (f1 n hn).elim, fun f m s o l hM n n' _ _ _ _ z _ => (f0 n z).elim, fun f m s o hM n a b => ⟨fun z => (f1 n z).elim, fun z _ => (f0 n z).elim, fun z => ?_⟩, fun s hs => ?_⟩, fun n a b => by omega, fun n hn => (f0 n hn).elim, h0 0 (by omega) _, fun f hc => ?_⟩
  · have hs := (WF_s hW hM).1
    rw [h16 s hs] at z
    omega
  · rw [h16 s hs]
    exact Nat.zero_le _
  · obtain ⟨m, s, o, l, hM, k1, k2⟩ := hc
    exact f1 _ (k1 0 (by have := hM.1; omega))
