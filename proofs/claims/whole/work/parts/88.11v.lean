/-! Time keeps it. -/
theorem K_z {A : MA} {c : Nat} {G : HG} {O : HO} {z z' : ZZ} (k : K A c G O z) (h : ∀ x, x < 2 → (∀ p, p < 2 → aB A x (2 + p) = true → gN A 0 + z' x p ≤ aN A x (11 + p)) ∧ (aI A x 0 = 1 ∨ aI A x 0 = 2 → gN A 0 + z' x 2 ≤ aN A x 1)) : K A c G O z' := by
  refine ⟨k.1, fun x hx => ?_⟩
  obtain ⟨⟨v1, v2, v3⟩, ⟨w1, ⟨w2, w3⟩, w4⟩, u⟩ := k.2 x hx
  obtain ⟨h1, h2⟩ := h x hx
  exact ⟨⟨v1, fun p hp hr => ⟨(v2 p hp hr).1, h1 p hp hr⟩, v3⟩, ⟨w1, ⟨fun hs => ⟨h2 hs, (w2 hs).2⟩, w3⟩, w4⟩, u⟩
theorem K_fail {A : MA} {c e p : Nat} {G : HG} {O : HO} {z : ZZ} (k : K A c G O z) (he : e < 2) (hp : p < 2) : K (m_fail A e p) c G O z := by
  have h0 : K (sB (sI (sI A e (6 + p) (aI A e (6 + p) + 1)) e 4 (aI A e 4 + 1)) e p (aB A e p && decide (aI A e (6 + p) + 1 < 3))) c G O z :=
    K_lQ (e := e) (z := z) (z' := z) k ⟨.trans (.trans (lF_I3 (by omega)) (lF_I3 (by omega))) lF_B, eV_B (eV_I3 (eV_I3 (k.2 e he).1 (by omega)) (by omega)) (by omega), rfl⟩ rfl (fun _ _ => rfl)
  unfold m_fail
  dsimp only
  by_cases hc : I (gN A 2) < aI A e 4 + 1
  · rw [if_pos hc]
    exact K_close (z := z) (K_post h0 (fun _ => pOK_0 (by decide))) he (fun _ _ => rfl)
  · rw [if_neg hc]
    exact h0
theorem fail_st {A : MA} {e p : Nat} (h : aI A e 0 = 3 ∨ aI A e 0 = 0) : aI (m_fail A e p) e 0 = 3 ∨ aI (m_fail A e p) e 0 = 0 := by
  unfold m_fail
  dsimp only
  by_cases hc : I (gN A 2) < aI A e 4 + 1
  · rw [if_pos hc]
    exact Or.inr close_I
  · rw [if_neg hc]
    have : aI (sB (sI (sI A e (6 + p) (aI A e (6 + p) + 1)) e 4 (aI A e 4 + 1)) e p (aB A e p && decide (aI A e (6 + p) + 1 < 3))) e 0 = aI A e 0 := (up2_ne2 (by omega)).trans (up2_ne2 (by omega))
    rw [this]
    exact h
theorem eV_late1 {A : MA} {e p : Nat} {z z' : Nat → Nat} (k : eV A e z) (hp : p < 2) (h3 : aI A e 0 = 3) (hz : ∀ q, q < 2 → q ≠ p → z' q = z q) : lQ e z z' A (m_late1 A e p) := by
  have b5 := k.1.1.2.2.2.2.1
  have b6 := k.1.1.2.2.2.2.2.1
  have hw := k.2.2.1 h3 p hp
  have hm : eV (m_mark A e p) e z := by
    refine eV_O k (fun m => ?_) (fun m => ?_) (fun m hm _ => ?_)
    · split
      · exact hp
      · exact b5 m
    · split
      · exact b6 m
      · exact b6 m
    · split at hm
      · exact absurd hm (by show ¬ (3 : Int32) = 2; decide)
      · rename_i hh; rw [if_neg hh]; exact ⟨hm, rfl⟩
  have hf : lF e A (m_mark A e p) := by
    refine lF_O (fun m => ?_) (fun x hx => funext (fun m => if_neg (fun z => hx z.1)))
    split
    · rfl
    · rfl
  have hk : eV (sN (sN (m_mark A e p) e (7 + p) 1) e (9 + p) (min 24 (aN A e (9 + p) * 2))) e z := by
    refine eV_N (eV_N hm ?_) ?_
    · exact Or.inr (Or.inl ⟨by omega, by omega, by omega⟩)
    · exact Or.inr (Or.inr (Or.inl ⟨by omega, by omega, by omega, by omega⟩))
  unfold m_late1
  refine ⟨hf.trans (.trans (lF_N (A := m_mark A e p) (i := 7 + p) (v := 1) (by omega)) (.trans (lF_N (A := sN (m_mark A e p) e (7 + p) 1) (i := 9 + p) (by omega)) lF_B)), eV_stop hk hp (fun n _ _ hs => ?_) hz, rfl⟩
  have hs' : (if e = e ∧ oSt A e n = 2 ∧ oPa A e n = p then (oWd A e n, (3 : Int32), p, oSk A e n) else aO A e n).2.1 = 2 := hs
  show (if e = e ∧ oSt A e n = 2 ∧ oPa A e n = p then (oWd A e n, (3 : Int32), p, oSk A e n) else aO A e n).2.2.1 ≠ p
  split at hs'
  · exact absurd hs' (by show ¬ (3 : Int32) = 2; decide)
  · rename_i hh
    rw [if_neg hh]
    exact fun hz => hh ⟨rfl, hs', hz⟩
theorem K_beat {A : MA} {c e p : Nat} {G : HG} {O : HO} {z : ZZ} (k : K A c G O z) (he : e < 2) (hp : p < 2) : K (m_beat A e p) c G O z := by
  unfold m_beat
  refine K_post ?_ (fun _ => pOK_0 (by decide))
  exact K_lQ (e := e) (z := z) (z' := z) k ⟨.trans lF_B (lF_I3 (by omega)), eV_I3 (eV_B (k.2 e he).1 (by omega)) (by omega), rfl⟩ rfl (fun _ _ => rfl)
theorem beat_st {A : MA} {e p : Nat} : aI (m_beat A e p) e 0 = aI A e 0 := by
  unfold m_beat
  rw [m_post_aI]
  exact up2_ne2 (by omega)
theorem K_tickP {A : MA} {c e p : Nat} {G : HG} {O : HO} {z : ZZ} (k : K A c G O z) (he : e < 2) (hp : p < 2) (h3 : aI A e 0 = 3) (hz0 : z e p = 0) : K (m_tickP A e p) c G O (up2 z e p 1) ∧ (aI (m_tickP A e p) e 0 = 3 ∨ aI (m_tickP A e p) e 0 = 0) := by
  have hzz : ∀ x, x ≠ e → up2 z e p 1 x = z x := fun x hx => up2_row hx
  have hz2 : up2 z e p 1 e 2 = z e 2 := up2_ne2 (by omega)
  unfold m_tickP
  by_cases hc : aB A e (2 + p) = true ∧ aN A e (11 + p) = gN A 0
  · rw [if_pos hc]
    have hl := eV_late1 (z' := up2 z e p 1 e) (k.2 e he).1 hp h3 (fun q _ hq => up2_ne2 hq)
    refine ⟨K_fail (K_lQ (z' := up2 z e p 1) k hl hz2 hzz) he hp, fail_st (Or.inl ((hl.1.2.1 0 (by decide)).trans h3))⟩
  · rw [if_neg hc]
    have k' : K A c G O (up2 z e p 1) := by
      refine K_z k (fun x hx => ?_)
      obtain ⟨⟨v1, v2, v3⟩, ⟨w1, ⟨w2, w3⟩, w4⟩, u⟩ := k.2 x hx
      refine ⟨fun p' hp' hr => ?_, fun hs => ?_⟩
      · have a := (v2 p' hp' hr).2
        by_cases hz : x = e ∧ p' = p
        · obtain ⟨rfl, rfl⟩ := hz
          rw [up2_eq]
          have : aN A x (11 + p') ≠ gN A 0 := fun q => hc ⟨hr, q⟩
          omega
        · rw [show up2 z e p 1 x p' = z x p' from if_neg hz]
          exact a
      · rw [show up2 z e p 1 x 2 = z x 2 from if_neg (by omega)]
        exact (w2 hs).1
    by_cases hd : gN A 0 % 8 = 0 ∧ cOut A e p = 0
    · rw [if_pos hd]
      dsimp only
      have kB : K (if aB A e (4 + p) = true then m_fail A e p else A) c G O (up2 z e p 1) ∧ (aI (if aB A e (4 + p) = true then m_fail A e p else A) e 0 = 3 ∨ aI (if aB A e (4 + p) = true then m_fail A e p else A) e 0 = 0) := by
        split
        · exact ⟨K_fail k' he hp, fail_st (Or.inl h3)⟩
        · exact ⟨k', Or.inl h3⟩
      generalize (if aB A e (4 + p) = true then m_fail A e p else A) = B at kB
      by_cases hB : aI B e 0 = 3
      · rw [if_pos hB]
        exact ⟨K_beat kB.1 he hp, Or.inl (beat_st.trans hB)⟩
      · rw [if_neg hB]
        exact kB
    · rw [if_neg hd]
      exact ⟨k', Or.inl h3⟩
theorem K_again {A : MA} {c e : Nat} {G : HG} {O : HO} {z z' : ZZ} (k : K A c G O z) (he : e < 2) (hs : aI A e 0 = 1 ∨ aI A e 0 = 2) (hz : ∀ x, x ≠ e → z' x = z x) (hz2 : z' e 2 ≤ 1) (hc : c < 4000) : K (m_again A e) c G O z' := by
  unfold m_again
  by_cases hl : aN A e 0 = gN A 2
  · rw [if_pos hl]
    exact K_close k he hz
  · rw [if_neg hl]
    dsimp only
    have n3 : aI A e 0 ≠ 3 := by rcases hs with h | h <;> rw [h] <;> decide
    have h0 : K (sN (sN A e 0 (aN A e 0 + 1)) e 1 (gN A 0 + 3)) c G O z' := by
      obtain ⟨⟨k1, k2, k3⟩, k4⟩ := k
      refine ⟨⟨k1, k2, k3⟩, fun x hx => ?_⟩
      obtain ⟨v, ec, u⟩ := k4 x hx
      by_cases hxe : x = e
      · subst hxe
        have v' : eV A x (z' x) := ⟨v.1, fun p hp hr => absurd (v.2.1 p hp hr).1 n3, v.2.2⟩
        have h1 := (ec.2.1.1 hs).2
        have h2 := v.1.2.2.2.2
        have h5 := ec.1.1
        have ec' : eC A x c (fun _ => 0) := by
          obtain ⟨w1, ⟨w2, w3⟩, w4⟩ := ec
          exact ⟨w1, ⟨fun hs => ⟨by have := (w2 hs).1; show gN A 0 + 0 ≤ _; omega, (w2 hs).2⟩, w3⟩, w4⟩
        refine ⟨eV_try v' (by omega), ?_, fun h3 => absurd h3 n3⟩
        have := eC_try (t := aN A x 0 + 1) (d := gN A 0 + 3) ec' (by omega) (by show gN A 0 + 0 ≤ _; omega) (by omega)
        obtain ⟨w1, ⟨w2, w3⟩, w4⟩ := this
        refine ⟨w1, ⟨fun hs => ⟨?_, (w2 hs).2⟩, w3⟩, w4⟩
        rw [show aN (sN (sN A x 0 (aN A x 0 + 1)) x 1 (gN A 0 + 3)) x 1 = gN A 0 + 3 from up2_eq]
        show gN A 0 + z' x 2 ≤ gN A 0 + 3
        omega
      · have hf : frE e A (sN (sN A e 0 (aN A e 0 + 1)) e 1 (gN A 0 + 3)) := .trans fr_sN fr_sN
        rw [hz x hxe]
        exact ⟨eV_fr hf hxe v, eC_fr hf hxe ec, uK_fr hf hxe u⟩
    refine K_post h0 (fun _ => ?_)
    split
    · exact pOK_0 (by decide)
    · exact pOK_0 (by decide)
theorem K_tickE {A : MA} {c e : Nat} {G : HG} {O : HO} {z z' : ZZ} (k : K A c G O z) (he : e < 2) (hz : ∀ x, x ≠ e → z' x = z x) (h0 : ∀ i, z e i = 0) (h1 : ∀ i, z' e i = 1) (hc : c < 4000) : K (m_tickE A e) c G O z' := by
  -- where the end is not up, its timers stand still
  have fin : ∀ B : MA, ∀ y : ZZ, K B c G O y → (∀ x, x ≠ e → y x = z x) → (aI B e 0 = 3 → y e 0 = 1 ∧ y e 1 = 1) → (aI B e 0 = 1 ∨ aI B e 0 = 2 → gN B 0 < aN B e 1) → K B c G O z' := by
    intro B y kB hy h3 hd
    refine K_z kB (fun x hx => ?_)
    obtain ⟨⟨v1, v2, v3⟩, ⟨w1, ⟨w2, w3⟩, w4⟩, u⟩ := kB.2 x hx
    by_cases hxe : x = e
    · subst hxe
      refine ⟨fun p hp hr => ?_, fun hs => ?_⟩
      · obtain ⟨a, b⟩ := v2 p hp hr
        obtain ⟨y0, y1⟩ := h3 a
        have : p = 0 ∨ p = 1 := by omega
        rw [h1]
        rcases this with rfl | rfl
        · rw [y0] at b; exact b
        · rw [y1] at b; exact b
      · rw [h1]
        exact hd hs
    · rw [hz x hxe, ← hy x hxe]
      exact ⟨fun p hp hr => (v2 p hp hr).2, fun hs => (w2 hs).1⟩
  unfold m_tickE
  by_cases ha : (aI A e 0 = 1 ∨ aI A e 0 = 2) ∧ gN A 0 = aN A e 1
  · rw [if_pos ha]
    exact K_again k he ha.1 hz (by rw [h1]; exact Nat.le_refl 1) hc
  · rw [if_neg ha]
    by_cases h3 : aI A e 0 = 3
    · rw [if_pos h3]
      obtain ⟨k1, s1⟩ := K_tickP (p := 0) k he (by decide) h3 (h0 0)
      have k2 : K (m_up (m_tickP A e 0) e (fun B => m_tickP B e 1)) c G O (up2 (up2 z e 0 1) e 1 1) ∧ (aI (m_up (m_tickP A e 0) e (fun B => m_tickP B e 1)) e 0 = 3 ∨ aI (m_up (m_tickP A e 0) e (fun B => m_tickP B e 1)) e 0 = 0) := by
        unfold m_up
        by_cases hh : aI (m_tickP A e 0) e 0 = 3
        · rw [if_pos hh]
          exact K_tickP (p := 1) k1 he (by decide) hh ((up2_ne2 (by decide)).trans (h0 1))
        · rw [if_neg hh]
          refine ⟨K_z k1 (fun x hx => ?_), s1⟩
          obtain ⟨⟨v1, v2, v3⟩, ⟨w1, ⟨w2, w3⟩, w4⟩, u⟩ := k1.2 x hx
          by_cases hxe : x = e
          · subst hxe
            refine ⟨fun p hp hr => absurd (v2 p hp hr).1 hh, fun hs => ?_⟩
            rcases s1 with s1 | s1
            · exact absurd s1 hh
            · rw [s1] at hs; exact absurd hs (by decide)
          · rw [show up2 (up2 z e 0 1) e 1 1 x = up2 z e 0 1 x from up2_row hxe]
            exact ⟨fun p hp hr => (v2 p hp hr).2, fun hs => (w2 hs).1⟩
      generalize m_up (m_tickP A e 0) e (fun B => m_tickP B e 1) = B at k2
      have hy : ∀ x, x ≠ e → up2 (up2 z e 0 1) e 1 1 x = z x := fun x hx => (up2_row hx).trans (up2_row hx)
      have y0 : up2 (up2 z e 0 1) e 1 1 e 0 = 1 := (up2_ne2 (by decide)).trans up2_eq
      have y1 : up2 (up2 z e 0 1) e 1 1 e 1 = 1 := up2_eq
      have k3 : K B c G O z' := by
        refine fin B _ k2.1 hy (fun _ => ⟨y0, y1⟩) (fun hs => ?_)
        rcases k2.2 with s | s
        · rw [s] at hs; exact absurd hs (by decide)
        · rw [s] at hs; exact absurd hs (by decide)
      unfold m_up
      by_cases hB : aI B e 0 = 3
      · rw [if_pos hB]
        exact K_sendAll he (fun p _ => by rw [h1]; exact Nat.le_refl 1) 64 B k3 hB
      · rw [if_neg hB]
        exact k3
    · rw [if_neg h3]
      refine fin A z k (fun _ _ => rfl) (fun h => absurd h h3) (fun hs => ?_)
      obtain ⟨⟨v1, v2, v3⟩, ⟨w1, ⟨w2, w3⟩, w4⟩, u⟩ := k.2 e he
      have := (w2 hs).1
      have hne : gN A 0 ≠ aN A e 1 := fun q => ha ⟨hs, q⟩
      omega
/-- the clock goes on: what was in time by one is now in time by none -/
theorem K_now {A : MA} {c : Nat} {G : HG} {O : HO} {z z' : ZZ} (k : K A c G O z) (hz : ∀ x i, z x i = 1) (hz' : ∀ x i, z' x i = 0) (hc : c < 3999) : K (uGN A (up1 (gN A) 0 (gN A 0 + 1))) (c + 1) G O z' := by
  have kk := K_up (Nat.le_succ c) k
  have g0 : gN (uGN A (up1 (gN A) 0 (gN A 0 + 1))) 0 = gN A 0 + 1 := show up1 (gN A) 0 (gN A 0 + 1) 0 = _ from up1_eq
  have g2 : gN (uGN A (up1 (gN A) 0 (gN A 0 + 1))) 2 = gN A 2 := show up1 (gN A) 0 (gN A 0 + 1) 2 = _ from up1_ne (by decide)
  refine ⟨kk.1, fun x hx => ?_⟩
  have hn := (k.2 x hx).2.1.1.1
  obtain ⟨⟨⟨⟨b1, b2, b3, b4, b5, b6, b7, b8⟩, c0, c3, c4, c5⟩, v2, v3⟩, ⟨⟨p1, p2, p3⟩, ⟨w2, w3, w5⟩, w4⟩, u⟩ := kk.2 x hx
  refine ⟨⟨⟨⟨b1, b2, b3, b4, b5, b6, b7, ?_⟩, c0, c3, c4, ?_⟩, fun p hp hr => ⟨(v2 p hp hr).1, ?_⟩, v3⟩, ⟨⟨?_, p2, p3⟩, ⟨fun hs => ⟨?_, ?_⟩, w3, ?_⟩, w4⟩, u⟩
  · rw [g0]; omega
  · rw [g2]; exact c5
  · have := (v2 p hp hr).2
    rw [g0, hz']
    rw [hz] at this
    show gN A 0 + 1 + 0 ≤ aN A x (11 + p)
    omega
  · rw [g0]; omega
  · have := (w2 hs).1
    rw [g0, hz']
    rw [hz] at this
    show gN A 0 + 1 + 0 ≤ aN A x 1
    omega
  · rw [g2]; exact (w2 hs).2
  · rw [g2]; exact w5
def z1 : ZZ := fun _ _ => 1
theorem K_tick {A : MA} {c : Nat} {G : HG} {O : HO} (k : K A c G O z1) (hc : c < 3999) : K (uGN A (up1 (gN A) 0 (gN A 0 + 1))) (c + 1) G O (fun _ _ => 0) ∧ K (m_tick A) (c + 1) G O z1 := by
  have k0 : K (uGN A (up1 (gN A) 0 (gN A 0 + 1))) (c + 1) G O (fun _ _ => 0) := K_now k (fun _ _ => rfl) (fun _ _ => rfl) hc
  have k1 : K (m_tickE (uGN A (up1 (gN A) 0 (gN A 0 + 1))) 0) (c + 1) G O (fun x _ => if x = 0 then 1 else 0) := K_tickE k0 (by decide) (fun x hx => funext (fun _ => if_neg hx)) (fun _ => rfl) (fun _ => rfl) (by omega)
  refine ⟨k0, ?_⟩
  unfold m_tick
  have k2 : K (m_tickE (m_tickE (uGN A (up1 (gN A) 0 (gN A 0 + 1))) 0) 1) (c + 1) G O (fun x _ => if x < 2 then 1 else 0) := by
    refine K_tickE k1 (by decide) (fun x hx => funext (fun _ => ?_)) (fun _ => rfl) (fun _ => rfl) (by omega)
    by_cases h : x = 0
    · rw [if_pos h, if_pos (by omega)]
    · rw [if_neg h, if_neg (by omega)]
  refine K_z k2 (fun x hx => ?_)
  obtain ⟨⟨v1, v2, v3⟩, ⟨w1, ⟨w2, w3⟩, w4⟩, u⟩ := k2.2 x hx
  dsimp only at v2 w2
  rw [if_pos hx] at v2 w2
  exact ⟨fun p hp hr => (v2 p hp hr).2, fun hs => (w2 hs).1⟩
