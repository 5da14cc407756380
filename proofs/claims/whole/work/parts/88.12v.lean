/-! What comes keeps it. -/
theorem gF_fr {e : Nat} {A B : MA} (h : gF e A B) : frE e A B := by
  obtain ⟨a1, a2, ⟨a3, a4⟩, a5, a6⟩ := h
  refine ⟨fun x hx => ?_, congrArg (fun z => z.2.1) a6⟩
  obtain ⟨b1, b2, b3⟩ := a5 x hx
  exact ⟨⟨funext (fun i => a1 x i (fun z => hx z.1)), funext (fun i => a2 x i (fun z => hx z.1))⟩, ⟨by rw [a3], by rw [a4]⟩, ⟨b1, b2⟩, b3⟩
theorem K_gF {A B : MA} {c e : Nat} {G : HG} {O : HO} {z : ZZ} (k : K A (c + 1) G O z) (he : e < 2) (h3 : aI A e 0 = 3) (h : gF e A B) (hc : c ≤ 511) (hq : qC B e (c + 1)) (hI : IN B e (G (1 - e) (aI A e 1)) (O (1 - e) (aI A e 1))) (hH : ∀ k n, 544 ≤ n → aH B e k n = false) (hA : cHa B e ≤ c + 1) : K B (c + 1) G O z := by
  obtain ⟨⟨k1, k2, k3⟩, k4⟩ := k
  have hf := gF_fr h
  obtain ⟨a1, a2, ⟨a3, a4⟩, a5, a6⟩ := h
  have hP : aP B = aP A := congrArg (fun z => z.1) a6
  have hgN : gN B = gN A := congrArg (fun z => z.2.1) a6
  have hgI : gI B = gI A := congrArg (fun z => z.2.2.1) a6
  have hgT : gT B = gT A := congrArg (fun z => z.2.2.2) a6
  refine ⟨⟨k1, pK_P hP hgI k2, cK_cg (fun x _ i hi => a1 x i (by omega)) hgI hgT k3⟩, fun x hx => ?_⟩
  obtain ⟨v, ec, u⟩ := k4 x hx
  by_cases hxe : x = e
  · subst hxe
    have q : ∀ i, ¬ (i = 5 ∨ (16 ≤ i ∧ i < 19) ∨ (23 ≤ i ∧ i < 26)) → aN B x i = aN A x i := fun i hi => a2 x i (fun z => hi z.2)
    have qI : ∀ i, i ≠ 10 → aI B x i = aI A x i := fun i hi => a1 x i (fun z => hi z.2)
    obtain ⟨⟨⟨b1, b2, b3, b4, b5, b6, b7, b8⟩, ⟨c1, c2⟩, c3, c4, c5⟩, v2, v3, v4, v5⟩ := v
    obtain ⟨⟨p1, p2, p3⟩, ⟨p4, p5, p6⟩, p7, p8, r1, r2, r3⟩ := ec
    refine ⟨⟨⟨⟨?_, ?_, ?_, ?_, ?_, ?_, fun p hp => ⟨?_, ?_⟩, ?_⟩, ⟨hq.2.2, fun s hs => ?_⟩, fun p hp => ?_, ?_, ?_⟩, fun p hp hr => ?_, fun _ p hp => ?_, fun n n1 n2 n3 => ?_, ?_⟩, ⟨⟨?_, ?_, fun s hs => ?_⟩, ⟨fun hs => ?_, ?_, ?_⟩, hH, hA, hq⟩, fun _ => ⟨⟨?_, fun n n1 n2 => ?_, fun s hs => ?_⟩, ?_⟩⟩
    · rw [q 2 (by omega)]; exact b1
    · rw [q 3 (by omega), q 4 (by omega)]; exact b2
    · rw [q 3 (by omega), q 4 (by omega)]; exact b3
    · rw [q 4 (by omega)]; exact b4
    · unfold oPa; rw [a4]; exact b5
    · unfold oSk; rw [a4]; exact b6
    · rw [q _ (by omega)]; exact (b7 p hp).1
    · rw [q _ (by omega)]; exact (b7 p hp).2
    · rw [hgN]; exact b8
    · have := hq.2.1 s hs; omega
    · rw [q _ (by omega)]; exact c3 p hp
    · rw [q 0 (by omega)]; exact c4
    · rw [hgN]; exact c5
    · rw [a3] at hr
      rw [qI 0 (by decide), hgN, q _ (by omega)]
      exact v2 p hp hr
    · rw [q _ (by omega)]; exact v3 h3 p hp
    · rw [q 3 (by omega)] at n1
      rw [q 4 (by omega)] at n2
      unfold oSt at n3
      unfold oPa
      rw [a4] at n3 ⊢
      rw [a3]
      exact v4 n n1 n2 n3
    · rw [q 22 (by omega), q 3 (by omega)]; exact v5
    · rw [hgN]; exact p1
    · rw [q 4 (by omega)]; exact p2
    · rw [q _ (by omega)]; exact p3 s hs
    · rw [qI 0 (by decide)] at hs
      rw [hgN, q 1 (by omega), q 0 (by omega)]
      exact p4 hs
    · rw [q 1 (by omega)]; exact p5
    · rw [hgN]; exact p6
    · rw [q 4 (by omega), qI 2 (by decide)]; exact (u h3).1.1
    · rw [q 3 (by omega)] at n1
      rw [q 4 (by omega)] at n2
      unfold oWd
      rw [a4, qI 2 (by decide)]
      exact (u h3).1.2.1 n n1 n2
    · rw [q _ (by omega), qI 2 (by decide)]; exact (u h3).1.2.2 s hs
    · rw [qI 1 (by decide)]; exact hI
  · exact ⟨eV_fr hf hxe v, eC_fr hf hxe ec, uK_fr hf hxe u⟩
/-- all that a delivery of data needs and leaves -/
theorem get_ok {A : MA} {c e n : Nat} {w : WC} {G : HG} {O : HO} {z : ZZ} (k : K A c G O z) (he : e < 2) (h3 : aI A e 0 = 3) (hc : c ≤ 511) (hw : (G (1 - e) (aI A e 1))[n - 1]? = some w) (h1 : 1 ≤ n) : (n < 5000 ∧ aN A e 5 ≤ 511) ∧ (¬ m_drop A e n = true → (bW (m_put A e n w) e ∧ bRd (m_put A e n w) ∧ cHd (m_put A e n w) e < 544) ∧ gOK A e n w) ∧ (gF e A (m_get A e n w) ∧ aN (m_get A e n w) e 5 ≤ 527) ∧ K (m_get A e n w) (c + 1) G O z := by
  obtain ⟨v, ec, u⟩ := k.2 e he
  obtain ⟨⟨p1, p2, p3⟩, ⟨p4, p5, p6⟩, p7, p8, hq⟩ := ec
  have hI := (u h3).2
  have hh := k.1.1 (1 - e) (aI A e 1)
  have h5 : aN A e 5 ≤ 511 := by
    have := late_le hI p7
    omega
  have hlen := (List.getElem?_eq_some_iff.mp hw).1
  refine ⟨⟨by omega, h5⟩, ?_⟩
  by_cases hd : m_drop A e n = true
  · have hg : m_get A e n w = A := by
      unfold m_get
      rw [if_pos hd]
    rw [hg]
    exact ⟨fun h => absurd hd h, ⟨gF_refl e A, by omega⟩, K_up (Nat.le_succ c) k⟩
  · obtain ⟨g1, ⟨g2, g3, g4⟩, g5, g6⟩ := get_all hh.1 hI (by omega) h5 hd hw hq hc
    obtain ⟨d1, d2, d3, d4⟩ := drop_no hd
    have hbM := g1.1
    have hput : cHd (m_put A e n w) e ≤ cHd A e + 1 := cHd_put
    refine ⟨fun _ => ⟨⟨⟨?_, fun m hm => ?_, fun m hm => ?_, hbM.2.2.1, hq.2.2⟩, fun x hx s hs => ?_, ?_⟩, g1⟩, ⟨g4, ?_⟩, ?_⟩
    · show aN A e 5 ≤ 527; omega
    · have := g1.2.2.2 m hm; omega
    · obtain ⟨⟨a, b, _⟩, s', o'⟩ := hbM.2.1 m hm
      have b' : m ≤ aN A e 5 + 16 := b
      exact ⟨by omega, s', o', a⟩
    · by_cases hxe : x = e
      · subst hxe
        have := hq.2.1 s hs
        show aN A x (23 + s) + cHd (m_put A x n w) x ≤ 512
        omega
      · have hH : aH (m_put A e n w) x = aH A x := by
          funext k i
          exact if_neg (fun z => hxe z.1)
        have := (k.2 x hx).2.1.2.2.2.2.2.1 s hs
        rw [(cHd_cg hH).1]
        show aN A x (23 + s) + cHd A x ≤ 512
        omega
    · have := cHd_le (m_put A e n w) e; omega
    · have hl : aN (m_get A e n w) e 5 ≤ aN A e 5 + 16 := by
        have : m_get A e n w = m_rdy e 544 (m_late (m_put A e n w) e) := by
          unfold m_get
          rw [if_neg hd]
        rw [this, g1.2.1]
        show up2 _ e 5 _ e 5 ≤ _
        rw [up2_eq]
        exact runN_le _ _ g1.2.2.2 544 _ (by omega)
      omega
    · refine K_gF (K_up (Nat.le_succ c) k) he h3 g4 hc g3 g2 (fun k' i hi => ?_) ?_
      · cases hz : aH (m_get A e n w) e k' i with
        | false => rfl
        | true =>
          have := g5 k' i hz
          have hh : (if e = e ∧ k' < 2 ∧ i = n then true else aH A e k' i) = true := this
          rw [if_neg (by omega), p7 k' i hi] at hh
          cases hh
      · have : cHa (m_get A e n w) e = cHa (m_put A e n w) e := by
          unfold cHa
          rw [g6]
        rw [this]
        have := cHa_put (A := A) (e := e) (n := n) (w := w)
        omega
theorem gF_P {e : Nat} {A B : MA} (h : gF e A B) : aP B = aP A ∧ gI B = gI A ∧ gT B = gT A := ⟨congrArg (fun z => z.1) h.2.2.2.2, congrArg (fun z => z.2.2.1) h.2.2.2.2, congrArg (fun z => z.2.2.2) h.2.2.2.2⟩
theorem K_data {A : MA} {c e p n : Nat} {w : WC} {G : HG} {O : HO} {z : ZZ} (k : K A c G O z) (he : e < 2) (h3 : aI A e 0 = 3) (hc : c ≤ 511) (hw : (G (1 - e) (aI A e 1))[n - 1]? = some w) (h1 : 1 ≤ n) : K (m_data A e p n w) (c + 1) G O z := by
  obtain ⟨_, _, ⟨_, h5⟩, kk⟩ := get_ok k he h3 hc hw h1
  unfold m_data
  refine K_post kk (fun _ => ⟨Or.inr (Or.inr (Or.inr (Or.inr (Or.inr (Or.inl rfl))))), fun q => absurd q ?_, fun _ => ⟨rfl, ?_⟩, fun q => absurd q ?_⟩)
  · show ¬ (5 : Int32) = 4; decide
  · show aN (m_get A e n w) e 5 < 5000; omega
  · show ¬ (5 : Int32) = 1; decide
theorem K_hear {A : MA} {c e p : Nat} {q : Pkt} {G : HG} {O : HO} {z : ZZ} (k : K A c G O z) (he : e < 2) (hp : p < 2) (hz : ∀ p, p < 2 → z e p ≤ 1) (h3 : aI A e 0 = 3) (hc : c ≤ 511) (hq : pOK (gI A 4) G (1 - e) q) (ht : q.1 0 = aI A e 1) : K (m_hear A e p q) (c + 1) G O z := by
  unfold m_hear
  have k' := K_up (Nat.le_succ c) k
  split
  · rename_i h4
    obtain ⟨_, h, h1⟩ := hq.2.1 h4
    rw [ht] at h
    exact K_data k he h3 hc h h1
  · split
    · split
      · exact k'
      · rename_i hn
        exact K_sack k' he hz h3 (by omega) (by omega)
    · split
      · exact K_post k' (fun _ => pOK_0 (by decide))
      · split
        · exact K_beatAck k' he hp
        · split
          · exact K_close (z := z) k' he (fun _ _ => rfl)
          · exact k'
theorem K_dlv {A : MA} {c e p : Nat} {q : Pkt} {G : HG} {O : HO} {z : ZZ} (k : K A c G O z) (he : e < 2) (hp : p < 2) (hz : ∀ e p, z e p ≤ 1) (hc : c ≤ 511) (hq : pOK (gI A 4) G (1 - e) q) : K (m_dlv A e p q) (c + 1) G O z := by
  unfold m_dlv
  have k' := K_up (Nat.le_succ c) k
  split
  · split
    · exact K_init k'
    · exact k'
  · split
    · split
      · exact K_echo k
      · exact k'
    · split
      · rename_i h1
        split
        · rename_i h2
          obtain ⟨rfl, h2⟩ := h2
          refine K_iack (hz _ _) k' h2 ?_ (by omega)
          rw [← h1.1]
          exact hq.2.2.2 h1.2 rfl
        · exact k'
      · split
        · split
          · rename_i h2
            obtain ⟨rfl, h2⟩ := h2
            exact K_up0 k' h2
          · exact k'
        · split
          · rename_i h3
            exact K_hear k he hp (fun p _ => hz e p) h3.2 hc hq h3.1
          · exact k'
