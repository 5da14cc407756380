/-! What is done at one end leaves the other as it was. -/
def frE (e : Nat) (A A' : MA) : Prop := (∀ x, x ≠ e → (aI A' x = aI A x ∧ aN A' x = aN A x) ∧ (aB A' x = aB A x ∧ aO A' x = aO A x) ∧ (aH A' x = aH A x ∧ aW A' x = aW A x) ∧ aR A' x = aR A x) ∧ gN A' = gN A
theorem frE.rfl {e : Nat} {A : MA} : frE e A A := ⟨fun _ _ => ⟨⟨Eq.refl _, Eq.refl _⟩, ⟨Eq.refl _, Eq.refl _⟩, ⟨Eq.refl _, Eq.refl _⟩, Eq.refl _⟩, Eq.refl _⟩
theorem frE.trans {e : Nat} {A B C : MA} (h1 : frE e A B) (h2 : frE e B C) : frE e A C := by
  refine ⟨fun x hx => ?_, h2.2.trans h1.2⟩
  obtain ⟨⟨a1, a2⟩, ⟨a3, a4⟩, ⟨a5, a6⟩, a7⟩ := h1.1 x hx
  obtain ⟨⟨b1, b2⟩, ⟨b3, b4⟩, ⟨b5, b6⟩, b7⟩ := h2.1 x hx
  exact ⟨⟨b1.trans a1, b2.trans a2⟩, ⟨b3.trans a3, b4.trans a4⟩, ⟨b5.trans a5, b6.trans a6⟩, b7.trans a7⟩
theorem up2_row {α : Type} {f : Nat → Nat → α} {e i x : Nat} {v : α} (h : x ≠ e) : up2 f e i v x = f x := funext (fun _ => up2_ne1 h)
theorem fr_sI {e i : Nat} {v : Int32} {A : MA} : frE e A (sI A e i v) := ⟨fun _ hx => ⟨⟨up2_row hx, Eq.refl _⟩, ⟨Eq.refl _, Eq.refl _⟩, ⟨Eq.refl _, Eq.refl _⟩, Eq.refl _⟩, Eq.refl _⟩
theorem fr_sN {e i v : Nat} {A : MA} : frE e A (sN A e i v) := ⟨fun _ hx => ⟨⟨Eq.refl _, up2_row hx⟩, ⟨Eq.refl _, Eq.refl _⟩, ⟨Eq.refl _, Eq.refl _⟩, Eq.refl _⟩, Eq.refl _⟩
theorem fr_sB {e i : Nat} {v : Bool} {A : MA} : frE e A (sB A e i v) := ⟨fun _ hx => ⟨⟨Eq.refl _, Eq.refl _⟩, ⟨up2_row hx, Eq.refl _⟩, ⟨Eq.refl _, Eq.refl _⟩, Eq.refl _⟩, Eq.refl _⟩
theorem fr_uO {e : Nat} {f : Nat → Nat → OW} {A : MA} (h : ∀ x, x ≠ e → f x = aO A x) : frE e A (uO A f) := ⟨fun x hx => ⟨⟨Eq.refl _, Eq.refl _⟩, ⟨Eq.refl _, h x hx⟩, ⟨Eq.refl _, Eq.refl _⟩, Eq.refl _⟩, Eq.refl _⟩
theorem fr_uP {e : Nat} {f : Nat → List Pkt} {A : MA} : frE e A (uP A f) := ⟨fun _ _ => ⟨⟨Eq.refl _, Eq.refl _⟩, ⟨Eq.refl _, Eq.refl _⟩, ⟨Eq.refl _, Eq.refl _⟩, Eq.refl _⟩, Eq.refl _⟩
theorem fr_post {e r : Nat} {q : Pkt} {A : MA} : frE e A (m_post A r q) := by
  unfold m_post
  split
  · exact .rfl
  · exact fr_uP
theorem fr_empty {e : Nat} {A : MA} : frE e A (m_empty A e) := by
  refine ⟨fun x hx => ⟨⟨funext (fun i => if_neg hx), funext (fun i => if_neg hx)⟩, ⟨funext (fun i => if_neg hx), Eq.refl _⟩, ⟨?_, Eq.refl _⟩, Eq.refl _⟩, Eq.refl _⟩
  exact funext (fun i => funext (fun n => if_neg (fun z => hx z.1)))
theorem fr_close {e : Nat} {w : Int32} {A : MA} : frE e A (m_close A e w) := .trans (.trans (.trans (.trans fr_sI fr_sI) fr_sI) fr_sI) fr_empty
theorem fr_comeUp {e : Nat} {o t : Int32} {A : MA} : frE e A (m_comeUp A e o t) := .trans (.trans (.trans fr_sI fr_sI) fr_sI) fr_empty
theorem fr_timer {e p : Nat} {A : MA} : frE e A (m_timer A e p) := by
  unfold m_timer
  split
  · exact .rfl
  · exact .trans fr_sB fr_sN
theorem fr_uO2 {e n : Nat} {o : OW} {A B : MA} (h : aO B = aO A) : frE e A (uO A (up2 (aO B) e n o)) := fr_uO (fun x hx => by rw [up2_row hx, h])
theorem fr_out {e n p : Nat} {A : MA} : frE e A (m_out A e n p) := by
  unfold m_out
  exact .trans (.trans fr_post (fr_uO (fun x hx => by rw [up2_row hx, m_post_aO]))) fr_timer
theorem fr_sendOne {e : Nat} {A A' : MA} (h : m_sendOne A e = some A') : frE e A A' := by
  unfold m_sendOne at h
  split at h
  · cases h
  · split at h
    · cases h
      exact fr_out
    · cases h
theorem fr_sendAll {e : Nat} : ∀ (k : Nat) (A : MA), frE e A (m_sendAll e k A)
  | 0, A => .rfl
  | k + 1, A => by
    rw [m_sendAll]
    split
    · exact .rfl
    · rename_i A' h
      exact (fr_sendOne h).trans (fr_sendAll k A')
theorem fr_fail {e p : Nat} {A : MA} : frE e A (m_fail A e p) := by
  unfold m_fail
  dsimp only
  have h0 : frE e A (sB (sI (sI A e (6 + p) (aI A e (6 + p) + 1)) e 4 (aI A e 4 + 1)) e p (aB A e p && decide (aI A e (6 + p) + 1 < 3))) := .trans (.trans fr_sI fr_sI) fr_sB
  by_cases hc : I (gN A 2) < aI A e 4 + 1
  · rw [if_pos hc]
    exact .trans (.trans h0 fr_post) fr_close
  · rw [if_neg hc]
    exact h0
theorem fr_mark {e p : Nat} {A : MA} : frE e A (m_mark A e p) := fr_uO (fun x hx => funext (fun n => if_neg (fun z => hx z.1)))
theorem fr_late1 {e p : Nat} {A : MA} : frE e A (m_late1 A e p) := by
  unfold m_late1
  exact .trans (.trans (.trans fr_mark fr_sN) fr_sN) fr_sB
theorem fr_beat {e p : Nat} {A : MA} : frE e A (m_beat A e p) := by
  unfold m_beat
  exact .trans (.trans fr_sB fr_sI) fr_post
theorem fr_tickP {e p : Nat} {A : MA} : frE e A (m_tickP A e p) := by
  unfold m_tickP
  split
  · exact .trans fr_late1 fr_fail
  · split
    · dsimp only
      split
      · split
        · exact .trans fr_fail fr_beat
        · exact fr_fail
      · split
        · exact fr_beat
        · exact .rfl
    · exact .rfl
theorem fr_again {e : Nat} {A : MA} : frE e A (m_again A e) := by
  unfold m_again
  split
  · exact fr_close
  · exact .trans (.trans fr_sN fr_sN) fr_post
theorem fr_up {e : Nat} {f : MA → MA} {A : MA} (h : ∀ B, frE e B (f B)) : frE e A (m_up A e f) := by
  unfold m_up
  split
  · exact h A
  · exact .rfl
theorem fr_tickE {e : Nat} {A : MA} : frE e A (m_tickE A e) := by
  unfold m_tickE
  split
  · exact fr_again
  · split
    · exact .trans (.trans fr_tickP (fr_up (fun B => fr_tickP))) (fr_up (fun B => fr_sendAll 64 B))
    · exact .rfl
/-! Bounds of an end that the reference needs in time. -/
def bE (A : MA) (e : Nat) : Prop := bO A e ∧ bR A e ∧ (∀ p, p < 2 → aN A e (11 + p) < 5000) ∧ aN A e 0 < 100 ∧ gN A 2 < 100
theorem bE_fr {A A' : MA} {e e' : Nat} (h : frE e A A') (hne : e' ≠ e) (hb : bE A e') : bE A' e' := by
  obtain ⟨⟨a1, a2⟩, ⟨a3, a4⟩, ⟨a5, a6⟩, a7⟩ := h.1 e' hne
  have a8 := h.2
  unfold bE bO bR at *
  unfold oPa oSk at *
  rw [a2, a4, a7, a8]
  exact hb
theorem bO_empty {A : MA} {e : Nat} (h5 : ∀ n, oPa A e n < 2) (h6 : ∀ n, oSk A e n ≤ 2) (h8 : gN A 0 < 4000) : bO (m_empty A e) e := by
  have k : ∀ i, aN (m_empty A e) e i = m_eN A e i := fun i => if_pos rfl
  refine ⟨?_, ?_, ?_, ?_, h5, h6, fun p hp => ?_, h8⟩
  · rw [k]; exact (show 0 < 2 by decide)
  · rw [k, k]; exact Nat.le_refl _
  · rw [k, k]; exact Nat.zero_le _
  · rw [k]; exact (show 0 < 4000 by decide)
  · rw [k, k]
    have : p = 0 ∨ p = 1 := by omega
    rcases this with rfl | rfl
    · exact ⟨(show 2 ≤ 8 by decide), (show 3 ≤ 24 by decide)⟩
    · exact ⟨(show 2 ≤ 8 by decide), (show 3 ≤ 24 by decide)⟩
theorem bE_empty {A : MA} {e : Nat} (hb : bE A e) : bE (m_empty A e) e := by
  obtain ⟨b1, b2, b3, b4, b5⟩ := hb
  have k : ∀ i, aN (m_empty A e) e i = m_eN A e i := fun i => if_pos rfl
  refine ⟨bO_empty b1.2.2.2.2.1 b1.2.2.2.2.2.1 b1.2.2.2.2.2.2.2, ⟨b2.1, fun s hs => ?_⟩, fun p hp => ?_, ?_, b5⟩
  · rw [k]
    have : s = 0 ∨ s = 1 ∨ s = 2 := by omega
    rcases this with rfl | rfl | rfl
    · exact b2.2 0 (by decide)
    · exact b2.2 1 (by decide)
    · exact b2.2 2 (by decide)
  · rw [k]
    have : p = 0 ∨ p = 1 := by omega
    rcases this with rfl | rfl
    · exact b3 0 (by decide)
    · exact b3 1 (by decide)
  · rw [k]
    exact b4
theorem bE_close {A : MA} {e : Nat} {w : Int32} (hb : bE A e) : bE (m_close A e w) e := by
  unfold m_close
  refine bE_empty ?_
  exact hb
theorem bE_post {A : MA} {e r : Nat} {q : Pkt} (hb : bE A e) : bE (m_post A r q) e := by
  unfold bE bO bR at *
  unfold oPa oSk at *
  rw [m_post_aN, m_post_aO, m_post_aR, m_post_gN]
  exact hb
theorem bE_fail {A : MA} {e p : Nat} (hb : bE A e) : bE (m_fail A e p) e := by
  have h0 : bE (sB (sI (sI A e (6 + p) (aI A e (6 + p) + 1)) e 4 (aI A e 4 + 1)) e p (aB A e p && decide (aI A e (6 + p) + 1 < 3))) e := hb
  unfold m_fail
  dsimp only
  by_cases hc : I (gN A 2) < aI A e 4 + 1
  · rw [if_pos hc]
    exact bE_close (bE_post h0)
  · rw [if_neg hc]
    exact h0
theorem bE_late1 {A : MA} {e p : Nat} (hp : p < 2) (hb : bE A e) : bE (m_late1 A e p) e := by
  obtain ⟨⟨b1, b2, b3, b4, b5, b6, b7, b8⟩, c1, c2, c3, c4⟩ := hb
  have k : ∀ i, aN (m_late1 A e p) e i = up2 (up2 (aN A) e (7 + p) 1) e (9 + p) (min 24 (aN A e (9 + p) * 2)) e i := fun _ => rfl
  have kn : ∀ i, i < 7 ∨ 11 ≤ i → aN (m_late1 A e p) e i = aN A e i := fun i hi => by rw [k, up2_ne2 (by omega), up2_ne2 (by omega)]
  have ko : ∀ n, oPa (m_late1 A e p) e n < 2 ∧ oSk (m_late1 A e p) e n ≤ 2 := by
    intro n
    show (if e = e ∧ oSt A e n = 2 ∧ oPa A e n = p then (oWd A e n, (3 : Int32), p, oSk A e n) else aO A e n).2.2.1 < 2 ∧ (if e = e ∧ oSt A e n = 2 ∧ oPa A e n = p then (oWd A e n, (3 : Int32), p, oSk A e n) else aO A e n).2.2.2 ≤ 2
    split
    · exact ⟨hp, b6 n⟩
    · exact ⟨b5 n, b6 n⟩
  refine ⟨⟨by rw [kn 2 (by omega)]; exact b1, by rw [kn 3 (by omega), kn 4 (by omega)]; exact b2, by rw [kn 3 (by omega), kn 4 (by omega)]; exact b3, by rw [kn 4 (by omega)]; exact b4, fun n => (ko n).1, fun n => (ko n).2, fun q hq => ?_, b8⟩, ⟨c1.1, fun s hs => by rw [kn _ (by omega)]; exact c1.2 s hs⟩, fun q hq => by rw [kn _ (by omega)]; exact c2 q hq, by rw [kn 0 (by omega)]; exact c3, c4⟩
  rw [k, k]
  have := b7 q hq
  unfold up2
  refine ⟨?_, ?_⟩
  · rw [if_neg (by omega)]
    split
    · omega
    · exact this.1
  · split
    · omega
    · rw [if_neg (by omega)]
      exact this.2
theorem bE_beat {A : MA} {e p : Nat} (hb : bE A e) : bE (m_beat A e p) e := by
  unfold m_beat
  refine bE_post ?_
  exact hb
theorem bE_tickP {A : MA} {e p : Nat} (hp : p < 2) (hb : bE A e) : bE (m_tickP A e p) e := by
  unfold m_tickP
  split
  · exact bE_fail (bE_late1 hp hb)
  · split
    · dsimp only
      split
      · split
        · exact bE_beat (bE_fail hb)
        · exact bE_fail hb
      · split
        · exact bE_beat hb
        · exact hb
    · exact hb
theorem bP_tickP {A : MA} {e p : Nat} (hb : bP A) : bP (m_tickP A e p) := by
  unfold m_tickP
  split
  · refine m_fail_bP ?_
    exact hb
  · split
    · dsimp only
      split
      · split
        · unfold m_beat
          refine m_post_bP ?_ _ _
          exact (m_fail_bP hb : bP (m_fail A e p))
        · exact m_fail_bP hb
      · split
        · unfold m_beat
          refine m_post_bP ?_ _ _
          exact hb
        · exact hb
    · exact hb
theorem bP_sendAll {e : Nat} : ∀ (k : Nat) (A : MA), bP A → bO A e → bP (m_sendAll e k A)
  | 0, A => fun h _ => h
  | k + 1, A => fun h h' => by
    rw [m_sendAll]
    split
    · exact h
    · rename_i A' hs
      obtain ⟨x, y⟩ := m_sendOne_b h h' hs
      exact bP_sendAll k A' x y
theorem bP_close {A : MA} {e : Nat} {w : Int32} (hb : bP A) : bP (m_close A e w) := hb
theorem bP_tickE {A : MA} {e : Nat} (hb : bP A) (h : bE A e) : bP (m_tickE A e) := by
  unfold m_tickE
  split
  · unfold m_again
    split
    · exact bP_close hb
    · refine m_post_bP ?_ _ _
      exact hb
  · split
    · have h1 : bP (m_tickP A e 0) := bP_tickP hb
      have h1' : bE (m_tickP A e 0) e := bE_tickP (by decide) h
      have h2 : bP (m_up (m_tickP A e 0) e (fun B => m_tickP B e 1)) ∧ bE (m_up (m_tickP A e 0) e (fun B => m_tickP B e 1)) e := by
        unfold m_up
        split
        · exact ⟨bP_tickP h1, bE_tickP (by decide) h1'⟩
        · exact ⟨h1, h1'⟩
      generalize m_up (m_tickP A e 0) e (fun B => m_tickP B e 1) = B at h2 ⊢
      unfold m_up
      split
      · exact bP_sendAll 64 B h2.1 h2.2.1
      · exact h2.1
    · exact hb
