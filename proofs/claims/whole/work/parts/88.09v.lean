theorem eC_st {A : MA} {e c : Nat} {z z' : Nat → Nat} {f : Nat → Nat → Int32} (k : eC A e c z) (h0 : ¬ (f e 0 = 1 ∨ f e 0 = 2)) : eC (uI A f) e c z' := by
  obtain ⟨k1, ⟨k4, k5, k6⟩, k7⟩ := k
  exact ⟨k1, ⟨fun h => absurd h h0, k5, k6⟩, k7⟩
theorem close_I {A : MA} {e : Nat} {w : Int32} : aI (m_close A e w) e 0 = 0 := by
  show (if e = e then m_eI _ e 0 else _) = (0 : Int32)
  rw [if_pos rfl]
  show up2 (up2 (up2 (up2 (aI A) e 0 0) e 1 0) e 2 0) e 3 w e 0 = 0
  rw [up2_ne2 (by decide), up2_ne2 (by decide), up2_ne2 (by decide), up2_eq]
theorem close_eC {A : MA} {e c : Nat} {z z' : Nat → Nat} {w : Int32} (k : eC A e c z) : eC (m_close A e w) e c z' := by
  have hs : up2 (up2 (up2 (up2 (aI A) e 0 0) e 1 0) e 2 0) e 3 w e 0 = 0 := by rw [up2_ne2 (by decide), up2_ne2 (by decide), up2_ne2 (by decide), up2_eq]
  have h1 : ¬ (up2 (up2 (up2 (up2 (aI A) e 0 0) e 1 0) e 2 0) e 3 w e 0 = 1 ∨ up2 (up2 (up2 (up2 (aI A) e 0 0) e 1 0) e 2 0) e 3 w e 0 = 2) := by rw [hs]; decide
  have k' : eC (uI A (up2 (up2 (up2 (up2 (aI A) e 0 0) e 1 0) e 2 0) e 3 w)) e c z := eC_st k h1
  unfold m_close
  exact eC_empty (z := z) k' h1
theorem close_cK {A : MA} {e c : Nat} {w : Int32} {G : HG} (he : e < 2) (k : cK A G c) : cK (m_close A e w) G c := by
  have hf : ∀ x, x ≠ e → aI (m_close A e w) x = aI A x := fun x hx => (fr_close.1 x hx).1.1
  have h0 := close_I (A := A) (e := e) (w := w)
  obtain ⟨k1, ⟨k2, k3⟩, ⟨k4, k5⟩, k6, k7⟩ := k
  have : e = 0 ∨ e = 1 := by omega
  rcases this with rfl | rfl
  · refine ⟨k1, ⟨fun h => ?_, fun h => ?_⟩, ⟨?_, ?_⟩, fun y hy => ?_, k7⟩
    · rw [h0] at h; exact absurd h (by decide)
    · rw [h0] at h; exact absurd h (by decide)
    · rw [hf 1 (by decide)]; exact k4
    · rw [hf 1 (by decide)]; exact k5
    · obtain ⟨x, a, b, c, d⟩ := k6 y hy
      refine ⟨x, a, b, c, fun h => ?_⟩
      rw [h0] at h; exact absurd h (by decide)
  · refine ⟨k1, ⟨?_, ?_⟩, ⟨Or.inl h0, fun h => ?_⟩, ?_, k7⟩
    · rw [hf 0 (by decide)]; exact k2
    · rw [hf 0 (by decide)]; exact k3
    · rw [h0] at h; exact absurd h (by decide)
    · rw [hf 0 (by decide)]; exact k6
theorem K_close {A : MA} {c e : Nat} {w : Int32} {G : HG} {O : HO} {z z' : ZZ} (k : K A c G O z) (he : e < 2) (hz : ∀ x, x ≠ e → z' x = z x) : K (m_close A e w) c G O z' := by
  obtain ⟨⟨k1, k2, k3⟩, k4⟩ := k
  refine ⟨⟨k1, k2, close_cK he k3⟩, fun x hx => ?_⟩
  obtain ⟨v, ec, u⟩ := k4 x hx
  by_cases hxe : x = e
  · subst hxe
    refine ⟨eV_empty (A := sI (sI (sI (sI A x 0 0) x 1 0) x 2 0) x 3 w) v.1, close_eC ec, fun h3 => ?_⟩
    rw [close_I] at h3
    exact absurd h3 (by decide)
  · rw [hz x hxe]
    exact ⟨eV_fr fr_close hxe v, eC_fr fr_close hxe ec, uK_fr fr_close hxe u⟩
theorem comeUp_I {A : MA} {e : Nat} {o t : Int32} : aI (m_comeUp A e o t) e 0 = 3 ∧ aI (m_comeUp A e o t) e 1 = o ∧ aI (m_comeUp A e o t) e 2 = t := by
  have q : ∀ i, aI (m_comeUp A e o t) e i = m_eI (sI (sI (sI A e 0 3) e 1 o) e 2 t) e i := fun i => if_pos rfl
  refine ⟨?_, ?_, ?_⟩
  · rw [q]
    show up2 (up2 (up2 (aI A) e 0 3) e 1 o) e 2 t e 0 = 3
    rw [up2_ne2 (by decide), up2_ne2 (by decide), up2_eq]
  · rw [q]
    show up2 (up2 (up2 (aI A) e 0 3) e 1 o) e 2 t e 1 = o
    rw [up2_ne2 (by decide), up2_eq]
  · rw [q]
    show up2 (up2 (up2 (aI A) e 0 3) e 1 o) e 2 t e 2 = t
    rw [up2_eq]
theorem K_comeUp {A : MA} {c e : Nat} {o t : Int32} {G : HG} {O : HO} {z : ZZ} (hh : hK G O c) (hp : pK A G) (k4 : ∀ e, e < 2 → eV A e (z e) ∧ eC A e c (z e) ∧ uK A e G O) (he : e < 2) (hG : G e t = []) (hc : cK (m_comeUp A e o t) G c) : K (m_comeUp A e o t) c G O z := by
  refine ⟨⟨hh, hp, hc⟩, fun x hx => ?_⟩
  obtain ⟨v, ec, u⟩ := k4 x hx
  by_cases hxe : x = e
  · subst hxe
    obtain ⟨i0, i1, i2⟩ := comeUp_I (A := A) (e := x) (o := o) (t := t)
    have hs : up2 (up2 (up2 (aI A) x 0 3) x 1 o) x 2 t x 0 = 3 := by rw [up2_ne2 (by decide), up2_ne2 (by decide), up2_eq]
    have h1 : ¬ (up2 (up2 (up2 (aI A) x 0 3) x 1 o) x 2 t x 0 = 1 ∨ up2 (up2 (up2 (aI A) x 0 3) x 1 o) x 2 t x 0 = 2) := by rw [hs]; decide
    have k' : eC (uI A (up2 (up2 (up2 (aI A) x 0 3) x 1 o) x 2 t)) x c (z x) := eC_st (z := z x) ec h1
    have hN : ∀ i, aN (m_comeUp A x o t) x i = m_eN (sI (sI (sI A x 0 3) x 1 o) x 2 t) x i := fun i => if_pos rfl
    refine ⟨eV_empty (A := sI (sI (sI A x 0 3) x 1 o) x 2 t) v.1, eC_empty (z := z x) k' h1, fun _ => ⟨?_, ?_⟩⟩
    · rw [i2, hG]
      have hW := (hh x t).1
      rw [hG] at hW
      refine ⟨?_, fun n n1 n2 => ?_, fun s hs => ?_⟩
      · rw [hN]; rfl
      · rw [hN] at n2
        have n2' : n ≤ 0 := n2
        omega
      · rw [hN]
        have a := hW.2.2.2.2 s hs
        have b : ([] : List WC).length = 0 := rfl
        have : s = 0 ∨ s = 1 ∨ s = 2 := by omega
        rcases this with rfl | rfl | rfl
        · show 0 = _; omega
        · show 0 = _; omega
        · show 0 = _; omega
    · rw [i1]
      refine IN_fresh (empty_H (A := sI (sI (sI A x 0 3) x 1 o) x 2 t) ec.2.2.1) ?_ (fun s hs => ?_) (hh _ _).1
      · rw [hN]; rfl
      · rw [hN]
        have : s = 0 ∨ s = 1 ∨ s = 2 := by omega
        rcases this with rfl | rfl | rfl <;> rfl
  · exact ⟨eV_fr fr_comeUp hxe v, eC_fr fr_comeUp hxe ec, uK_fr fr_comeUp hxe u⟩
theorem kTag_inj {k a b : Int32} (ha : a ≠ 0) (hb : b ≠ 0) (h : kTag k a = kTag k b) : a = b := by
  unfold kTag at h
  generalize f_M_mixed (-2128831035) k = m at h
  have x0 : ∀ c : Int32, c ^^^ m = m → c = 0 := fun c hc => by
    have : (c ^^^ m) ^^^ m = m ^^^ m := by rw [hc]
    rw [Int32.xor_assoc, Int32.xor_self, Int32.xor_zero] at this
    exact this
  by_cases h1 : a = m
  · rw [if_pos h1] at h
    by_cases h2 : b = m
    · rw [h1, h2]
    · rw [if_neg h2] at h
      exact absurd (x0 b h.symm) hb
  · rw [if_neg h1] at h
    by_cases h2 : b = m
    · rw [if_pos h2] at h
      exact absurd (x0 a h) ha
    · rw [if_neg h2] at h
      have : (a ^^^ m) ^^^ m = (b ^^^ m) ^^^ m := by rw [h]
      rw [Int32.xor_assoc, Int32.xor_assoc, Int32.xor_self, Int32.xor_zero, Int32.xor_zero] at this
      exact this
theorem K_up0 {A : MA} {c : Nat} {G : HG} {O : HO} {z : ZZ} (k : K A c G O z) (h2 : aI A 0 0 = 2) : K (m_comeUp A 0 (aI A 0 1) (aI A 0 2)) c G O z := by
  obtain ⟨⟨k1, k2, k3⟩, k4⟩ := k
  have hf : ∀ x, x ≠ 0 → aI (m_comeUp A 0 (aI A 0 1) (aI A 0 2)) x = aI A x := fun x hx => (fr_comeUp.1 x hx).1.1
  obtain ⟨i0, i1, i2⟩ := comeUp_I (A := A) (e := 0) (o := aI A 0 1) (t := aI A 0 2)
  obtain ⟨c1, ⟨c2, c3⟩, ⟨c4, c5⟩, c6, c7⟩ := k3
  obtain ⟨d1, d2⟩ := c2 (Or.inr (Or.inl h2))
  have d3 := c3 (Or.inl h2)
  refine K_comeUp k1 k2 k4 (by decide) ?_ ⟨c1, ⟨fun _ => ?_, fun _ => ?_⟩, ⟨?_, ?_⟩, fun y hy => ?_, c7⟩
  · cases hG : G 0 (aI A 0 2) with
    | nil => rfl
    | cons a l =>
      obtain ⟨x, x1, x2, x3, x4⟩ := c6 (aI A 0 2) (by rw [hG]; exact List.cons_ne_nil _ _)
      exact absurd (kTag_inj x2 d2 (x3.symm.trans d3)) (x4 (Or.inr h2))
  · rw [i1]; exact ⟨d1, d2⟩
  · rw [i1, i2]; exact d3
  · rw [hf 1 (by decide)]; exact c4
  · rw [hf 1 (by decide)]; exact c5
  · obtain ⟨x, x1, x2, x3, x4⟩ := c6 y hy
    refine ⟨x, x1, x2, x3, fun h => ?_⟩
    rw [i0] at h
    exact absurd h (by decide)
theorem K_echo1 {A : MA} {c : Nat} {q : Nat → Int32} {G : HG} {O : HO} {z : ZZ} (k : K A c G O z) (hr : m_right A q = true) : K (m_echo1 A q) (c + 1) G O z := by
  unfold m_echo1
  split
  · rename_i hc
    unfold m_right at hr
    rw [decide_eq_true_iff] at hr
    have kk := K_up (Nat.le_succ c) k
    obtain ⟨⟨k1, k2, k3⟩, k4⟩ := kk
    obtain ⟨⟨c1, c1'⟩, ⟨c2, c3⟩, ⟨c4, c5⟩, c6, c7⟩ := k3
    have k3' := k.1.2.2.1
    let B : MA := uGT A (up1 (gT A) 1 (gT A 1 ++ [q 4]))
    have hf : ∀ x, x ≠ 1 → aI (m_comeUp B 1 (q 4) (q 3)) x = aI A x := fun x hx => (fr_comeUp.1 x hx).1.1
    obtain ⟨i0, i1, i2⟩ := comeUp_I (A := B) (e := 1) (o := q 4) (t := q 3)
    have g0 : gT (m_comeUp B 1 (q 4) (q 3)) 0 = gT A 0 := show up1 (gT A) 1 (gT A 1 ++ [q 4]) 0 = gT A 0 from up1_ne (by decide)
    have g1 : gT (m_comeUp B 1 (q 4) (q 3)) 1 = gT A 1 ++ [q 4] := show up1 (gT A) 1 (gT A 1 ++ [q 4]) 1 = _ from up1_eq
    refine K_comeUp (A := B) k1 k2 k4 (by decide) ?_ ⟨⟨?_, ?_⟩, ⟨?_, ?_⟩, ⟨Or.inr i0, fun _ => ?_⟩, fun y hy => ?_, fun x hx => ?_⟩
    · cases hG : G 1 (q 3) with
      | nil => rfl
      | cons a l =>
        have := c7 (q 3) (by rw [hG]; exact List.cons_ne_nil _ _)
        rw [← hr.2.2.1] at this
        exact absurd this hc.2
    · rw [g0]; exact c1
    · rw [g1, List.length_append, List.length_singleton]
      omega
    · rw [hf 0 (by decide), g0]; exact c2
    · rw [hf 0 (by decide)]; exact c3
    · rw [i2, g1]
      show kTag (gI A 4) (q 3) ∈ gT A 1 ++ [q 4]
      rw [← hr.2.2.1]
      exact List.mem_append_right _ (List.mem_singleton_self _)
    · rw [hf 0 (by decide), g0]; exact c6 y hy
    · rw [g1]
      exact List.mem_append_left _ (c7 x hx)
  · exact K_up (Nat.le_succ c) k
