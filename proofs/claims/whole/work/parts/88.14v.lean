/-! What is sent, read, aborted keeps it. -/
theorem addM_all (A : MA) (e s o : Nat) (lo : Bool) (v : Int32) (m : Nat) : ∀ k, (m_addM A e s o lo v m k).1 = A.1 ∧ (∀ x i, aN (m_addM A e s o lo v m k) x i = if x = e ∧ i = 4 then aN A e 4 + k else aN A x i) ∧ aB (m_addM A e s o lo v m k) = aB A ∧ (∀ x n, aO (m_addM A e s o lo v m k) x n = if x = e ∧ aN A e 4 < n ∧ n ≤ aN A e 4 + k then ((v + I (n - aN A e 4 - 1), s, o, Nat.beq (n - aN A e 4 - 1) 0, Nat.beq (n - aN A e 4 - 1 + 1) m, lo), 1, 0, 0) else aO A x n) ∧ (m_addM A e s o lo v m k).2.2.2.2 = A.2.2.2.2
  | 0 => by
    refine ⟨rfl, fun x i => ?_, rfl, fun x n => ?_, rfl⟩
    · split
      · rename_i h; rw [h.1, h.2]; rfl
      · rfl
    · rw [if_neg (by omega)]
      rfl
  | k + 1 => by
    obtain ⟨h1, h2, h3, h4, h5⟩ := addM_all A e s o lo v m k
    rw [m_addM]
    generalize m_addM A e s o lo v m k = B at h1 h2 h3 h4 h5
    have hg : aN B e 4 = aN A e 4 + k := by rw [h2, if_pos ⟨rfl, rfl⟩]
    unfold m_addW
    refine ⟨h1, fun x i => ?_, h3, fun x n => ?_, h5⟩
    · show up2 (aN B) e 4 (aN B e 4 + 1) x i = _
      unfold up2
      by_cases hz : x = e ∧ i = 4
      · rw [if_pos hz, if_pos hz, hg]
        omega
      · rw [if_neg hz, if_neg hz, h2, if_neg hz]
    · show up2 (aO B) e (aN B e 4 + 1) ((v + I k, s, o, Nat.beq k 0, Nat.beq (k + 1) m, lo), 1, 0, 0) x n = _
      rw [hg]
      unfold up2
      by_cases hz : x = e ∧ n = aN A e 4 + k + 1
      · obtain ⟨rfl, rfl⟩ := hz
        rw [if_pos ⟨rfl, rfl⟩, if_pos ⟨rfl, by omega, by omega⟩, show aN A x 4 + k + 1 - aN A x 4 - 1 = k by omega]
      · rw [if_neg hz, h4]
        by_cases hy : x = e ∧ aN A e 4 < n ∧ n ≤ aN A e 4 + k
        · rw [if_pos hy, if_pos (by omega)]
        · rw [if_neg hy, if_neg (by omega)]
theorem add_all (A : MA) (e s : Nat) (lo : Bool) (v : Int32) (m : Nat) (hs : s < 3) : (m_add A e s lo v m).1 = A.1 ∧ (∀ x i, aN (m_add A e s lo v m) x i = if x = e ∧ i = 4 then aN A e 4 + m else if (x = e ∧ i = 13 + s) ∧ lo = false then aN A x i + 1 else aN A x i) ∧ aB (m_add A e s lo v m) = aB A ∧ (∀ x n, aO (m_add A e s lo v m) x n = if x = e ∧ aN A e 4 < n ∧ n ≤ aN A e 4 + m then ((v + I (n - aN A e 4 - 1), s, odO (fun t => aN A e (13 + t)) s lo, Nat.beq (n - aN A e 4 - 1) 0, Nat.beq (n - aN A e 4 - 1 + 1) m, lo), 1, 0, 0) else aO A x n) ∧ (m_add A e s lo v m).2.2.2.2 = A.2.2.2.2 := by
  cases lo with
  | true =>
    obtain ⟨h1, h2, h3, h4, h5⟩ := addM_all A e s 0 true v m m
    refine ⟨h1, fun x i => ?_, h3, h4, h5⟩
    rw [show aN (m_add A e s true v m) x i = aN (m_addM A e s 0 true v m m) x i from rfl, h2]
    split
    · rfl
    · rw [if_neg (fun z => by cases z.2)]
  | false =>
    obtain ⟨h1, h2, h3, h4, h5⟩ := addM_all A e s (aN A e (13 + s)) false v m m
    refine ⟨h1, fun x i => ?_, h3, h4, h5⟩
    show up2 (aN (m_addM A e s (aN A e (13 + s)) false v m m)) e (13 + s) (aN A e (13 + s) + 1) x i = _
    unfold up2
    by_cases hz : x = e ∧ i = 13 + s
    · obtain ⟨rfl, rfl⟩ := hz
      rw [if_pos ⟨rfl, rfl⟩, if_neg (by omega), if_pos ⟨⟨rfl, rfl⟩, rfl⟩]
    · rw [if_neg hz, h2, if_neg (show ¬ ((x = e ∧ i = 13 + s) ∧ false = false) from fun z => hz z.1)]
def upG (G : HG) (e : Nat) (t : Int32) (X : List WC) : HG := fun x y => if x = e ∧ y = t then G x y ++ X else G x y
def upO (O : HO) (e : Nat) (t : Int32) (s : Nat) (lo : Bool) : HO := fun x y => if x = e ∧ y = t then odS (O x y) s lo else O x y
theorem pOK_G {key : Int32} {G : HG} {e s : Nat} {t : Int32} {X : List WC} {q : Pkt} (h : pOK key G s q) : pOK key (upG G e t X) s q := by
  refine ⟨h.1, fun h4 => ?_, h.2.2⟩
  obtain ⟨a, b, d⟩ := h.2.1 h4
  refine ⟨a, ?_, d⟩
  unfold upG
  split
  · rw [List.getElem?_append_left (List.getElem?_eq_some_iff.mp b).1]
    exact b
  · exact b
theorem K_add {A : MA} {c e s m : Nat} {lo : Bool} {v : Int32} {G : HG} {O : HO} {z : ZZ} (k : K A c G O z) (he : e < 2) (h3 : aI A e 0 = 3) (hs : s < 3) (hm : 1 ≤ m) (hm4 : m ≤ 4) (hc : c ≤ 511) (hl : aN A e 4 - aN A e 3 + m ≤ 24) : ∃ G' O', K (m_add A e s lo v m) (c + 1) G' O' z := by
  obtain ⟨⟨k1, k2, k3⟩, k4⟩ := k
  obtain ⟨v0, ec, u⟩ := k4 e he
  obtain ⟨⟨s1, s2, s3⟩, uI⟩ := u h3
  obtain ⟨h1, h2, hB, h4, h5⟩ := add_all A e s lo v m hs
  obtain ⟨⟨p1, p2, p3⟩, ⟨p4, p5, p6⟩, p7, p8, q1, q2, q3⟩ := ec
  have hbO := m_add_bO (lo := lo) (v := v) v0.1.1 hs hl (by omega)
  have hg : aP (m_add A e s lo v m) = aP A := congrArg (fun z => z.2.2.2.1) h5
  have hgN : gN (m_add A e s lo v m) = gN A := congrArg (fun z => z.2.2.2.2.1) h5
  have hgI : gI (m_add A e s lo v m) = gI A := congrArg (fun z => z.2.2.2.2.2.1) h5
  have hgT : gT (m_add A e s lo v m) = gT A := congrArg (fun z => z.2.2.2.2.2.2) h5
  have hI : aI (m_add A e s lo v m) = aI A := h1
  have hH : aH (m_add A e s lo v m) = aH A := congrArg (fun z => z.1) h5
  have hW : aW (m_add A e s lo v m) = aW A := congrArg (fun z => z.2.1) h5
  have hR : aR (m_add A e s lo v m) = aR A := congrArg (fun z => z.2.2.1) h5
  have hodO : odO (fun t => aN A e (13 + t)) s lo = odO (O e (aI A e 2)) s lo := by
    unfold odO
    dsimp only
    rw [s3 s hs]
  have hGe : upG G e (aI A e 2) (newW v s (odO (O e (aI A e 2)) s lo) lo m) e (aI A e 2) = G e (aI A e 2) ++ newW v s (odO (O e (aI A e 2)) s lo) lo m := if_pos ⟨rfl, rfl⟩
  have hOe : upO O e (aI A e 2) s lo e (aI A e 2) = odS (O e (aI A e 2)) s lo := if_pos ⟨rfl, rfl⟩
  have hGx : ∀ x y, x ≠ e → upG G e (aI A e 2) (newW v s (odO (O e (aI A e 2)) s lo) lo m) x y = G x y := fun x y hx => if_neg (fun z => hx z.1)
  have hOx : ∀ x y, x ≠ e → upO O e (aI A e 2) s lo x y = O x y := fun x y hx => if_neg (fun z => hx z.1)
  have hk' : hK (upG G e (aI A e 2) (newW v s (odO (O e (aI A e 2)) s lo) lo m)) (upO O e (aI A e 2) s lo) (c + 1) := by
    intro x y
    by_cases hz : x = e ∧ y = aI A e 2
    · obtain ⟨rfl, rfl⟩ := hz
      rw [hGe, hOe]
      refine ⟨WF_add (k1 x _).1 v lo hs hm hm4, ?_⟩
      have := (k1 x (aI A x 2)).2
      rw [List.length_append, newW_len]
      omega
    · rw [show upG G e (aI A e 2) (newW v s (odO (O e (aI A e 2)) s lo) lo m) x y = G x y from if_neg hz, show upO O e (aI A e 2) s lo x y = O x y from if_neg hz]
      refine ⟨(k1 x y).1, ?_⟩
      have := (k1 x y).2
      omega
  refine ⟨upG G e (aI A e 2) (newW v s (odO (O e (aI A e 2)) s lo) lo m), upO O e (aI A e 2) s lo, ⟨hk', ⟨?_, fun r hr q hq => ?_⟩, ?_⟩, fun x hx => ?_⟩
  · intro r hr
    rw [hg]
    exact k2.1 r hr
  · rw [hg] at hq
    rw [hgI]
    exact pOK_G (k2.2 r hr q hq)
  · obtain ⟨⟨c1, c1'⟩, ⟨c2, c3⟩, ⟨c4, c5⟩, c6, c7⟩ := k3
    unfold cK
    rw [hI, hgI, hgT]
    refine ⟨⟨by omega, by omega⟩, ⟨c2, c3⟩, ⟨c4, c5⟩, fun y hy => ?_, fun x hx => ?_⟩
    · by_cases hz : 0 = e ∧ y = aI A e 2
      · obtain ⟨rfl, rfl⟩ := hz
        obtain ⟨d1, d2⟩ := c2 (Or.inr (Or.inr h3))
        refine ⟨aI A 0 1, d1, d2, c3 (Or.inr h3), fun h => ?_⟩
        rw [h3] at h
        exact absurd h (by decide)
      · rw [show upG G e (aI A e 2) (newW v s (odO (O e (aI A e 2)) s lo) lo m) 0 y = G 0 y from if_neg hz] at hy
        exact c6 y hy
    · by_cases hz : 1 = e ∧ x = aI A e 2
      · obtain ⟨rfl, rfl⟩ := hz
        exact c5 h3
      · rw [show upG G e (aI A e 2) (newW v s (odO (O e (aI A e 2)) s lo) lo m) 1 x = G 1 x from if_neg hz] at hx
        exact c7 x hx
  · obtain ⟨v', ec', u'⟩ := k4 x hx
    by_cases hxe : x = e
    · subst hxe
      have q : ∀ i, i ≠ 4 → ¬ (13 ≤ i ∧ i < 16) → aN (m_add A x s lo v m) x i = aN A x i := fun i hi hj => by rw [h2, if_neg (by omega), if_neg (by omega)]
      have q4 : aN (m_add A x s lo v m) x 4 = aN A x 4 + m := by rw [h2, if_pos ⟨rfl, rfl⟩]
      have q13 : ∀ t, t < 3 → aN (m_add A x s lo v m) x (13 + t) = odS (fun t => aN A x (13 + t)) s lo t := fun t ht => by
        rw [h2, if_neg (by omega)]
        unfold odS
        by_cases hz : t = s ∧ lo = false
        · rw [if_pos ⟨⟨rfl, by omega⟩, hz.2⟩, if_pos hz]
        · rw [if_neg (fun y => hz ⟨by have := y.1.2; omega, y.2⟩), if_neg hz]
      obtain ⟨⟨⟨b1, b2, b3, b4, b5, b6, b7, b8⟩, ⟨c1, c2⟩, c3, c4, c5⟩, v2, v3, v4, v5⟩ := v0
      refine ⟨⟨⟨hbO, ⟨?_, fun t ht => ?_⟩, fun p hp => ?_, ?_, ?_⟩, fun p hp hr => ?_, fun _ p hp => ?_, fun n n1 n2 n3 => ?_, ?_⟩, ⟨⟨?_, ?_, fun t ht => ?_⟩, ⟨fun hst => ?_, ?_, ?_⟩, ?_, ?_, ?_, fun t ht => ?_, ?_⟩, fun _ => ⟨⟨?_, fun n n1 n2 => ?_, fun t ht => ?_⟩, ?_⟩⟩
      · rw [hR]; exact c1
      · rw [q _ (by omega) (by omega)]; exact c2 t ht
      · rw [q _ (by omega) (by omega)]; exact c3 p hp
      · rw [q 0 (by omega) (by omega)]; exact c4
      · rw [hgN]; exact c5
      · rw [hB] at hr
        rw [hI, hgN, q _ (by omega) (by omega)]
        exact v2 p hp hr
      · rw [q _ (by omega) (by omega)]; exact v3 h3 p hp
      · rw [q 3 (by omega) (by omega)] at n1
        rw [q4] at n2
        unfold oSt at n3
        unfold oPa
        rw [h4] at n3 ⊢
        rw [hB]
        by_cases hz : x = x ∧ aN A x 4 < n ∧ n ≤ aN A x 4 + m
        · rw [if_pos hz] at n3
          exact absurd n3 (by show ¬ (1 : Int32) = 2; decide)
        · rw [if_neg hz] at n3 ⊢
          exact v4 n n1 (by omega) n3
      · rw [q 22 (by omega) (by omega), q 3 (by omega) (by omega)]; exact v5
      · rw [hgN]; omega
      · rw [q4]; omega
      · rw [q13 t ht]
        have := p3 t ht
        unfold odS
        dsimp only
        split <;> omega
      · rw [hI] at hst
        rw [hgN, q 1 (by omega) (by omega), q 0 (by omega) (by omega)]
        exact p4 hst
      · rw [q 1 (by omega) (by omega)]; exact p5
      · rw [hgN]; exact p6
      · rw [hH]; exact p7
      · rw [(cHd_cg (congrFun hH x)).2]; omega
      · rw [(cHd_cg (congrFun hH x)).1, hR]; omega
      · rw [(cHd_cg (congrFun hH x)).1, q _ (by omega) (by omega)]
        have := q2 t ht
        omega
      · rw [hR]; exact q3
      · rw [q4, hI, hGe, List.length_append, newW_len, s1]
      · rw [q 3 (by omega) (by omega)] at n1
        rw [q4] at n2
        unfold oWd
        rw [h4, hI, hGe]
        by_cases hz : x = x ∧ aN A x 4 < n ∧ n ≤ aN A x 4 + m
        · rw [if_pos hz, List.getElem?_append_right (by omega), ← s1, hodO, show n - 1 - aN A x 4 = n - aN A x 4 - 1 by omega]
          exact newW_at v s _ lo m (by omega)
        · rw [if_neg hz, List.getElem?_append_left (by omega)]
          exact s2 n n1 (by omega)
      · rw [q13 t ht, hI, hOe]
        have := s3 t ht
        unfold odS
        dsimp only
        rw [this]
      · rw [hI, hGx _ _ (by omega), hOx _ _ (by omega)]
        exact IN_cg (k1 _ _).1 (congrFun hH x) (congrFun hW x) (q 5 (by omega) (by omega)) (fun t ht => q _ (by omega) (by omega)) uI
    · have hfr : frE e A (m_add A e s lo v m) := (m_add_g A e s lo v m).2.2.2.2
      have hv := eV_fr hfr hxe v'
      have hec : eC A x (c + 1) (z x) := by
        obtain ⟨⟨w1, w2, w3⟩, w4, w5, w6, r1, r2, r3⟩ := ec'
        exact ⟨⟨by omega, by omega, fun t ht => by have := w3 t ht; omega⟩, w4, w5, by omega, by omega, fun t ht => by have := r2 t ht; omega, r3⟩
      refine ⟨hv, eC_fr hfr hxe hec, uK_fr hfr hxe (fun hx3 => ?_)⟩
      obtain ⟨a, b⟩ := u' hx3
      have hx1 : 1 - x = e := by omega
      rw [hGx _ _ hxe, hOx _ _ hxe]
      refine ⟨a, ?_⟩
      rw [hx1] at b ⊢
      by_cases hz : aI A x 1 = aI A e 2
      · rw [hz] at b ⊢
        rw [hGe, hOe]
        exact IN_mono (k1 _ _).1 (by have := (hk' e (aI A e 2)).1; rw [hGe, hOe] at this; exact this) (odS_le _ _ _) b
      · rw [show upG G e (aI A e 2) (newW v s (odO (O e (aI A e 2)) s lo) lo m) e (aI A x 1) = G e (aI A x 1) from if_neg (fun y => hz y.2), show upO O e (aI A e 2) s lo e (aI A x 1) = O e (aI A x 1) from if_neg (fun y => hz y.2)]
        exact b
theorem K_send {A : MA} {c e s m : Nat} {lo : Bool} {v : Int32} {G : HG} {O : HO} {z : ZZ} (k : K A c G O z) (he : e < 2) (hz : ∀ p, p < 2 → z e p ≤ 1) (h3 : aI A e 0 = 3) (hs : s < 3) (hm : 1 ≤ m) (hm4 : m ≤ 4) (hc : c ≤ 511) (hl : aN A e 4 - aN A e 3 + m ≤ 24) : ∃ G' O', K (m_send A e s lo v m) (c + 1) G' O' z := by
  obtain ⟨G', O', k'⟩ := K_add (lo := lo) (v := v) k he h3 hs hm hm4 hc hl
  refine ⟨G', O', K_sendAll he hz 64 _ k' ?_⟩
  rw [show aI (m_add A e s lo v m) = aI A from (add_all A e s lo v m hs).1]
  exact h3
theorem K_abort {A : MA} {c e : Nat} {G : HG} {O : HO} {z : ZZ} (k : K A c G O z) (he : e < 2) : K (m_abort A e) c G O z := by
  unfold m_abort
  refine K_close (z := z) ?_ he (fun _ _ => rfl)
  split
  · exact K_post k (fun _ => pOK_0 (by decide))
  · exact k
theorem K_primary {A : MA} {c e p : Nat} {G : HG} {O : HO} {z : ZZ} (k : K A c G O z) (he : e < 2) (hp : p < 2) : K (sN A e 2 p) c G O z :=
  K_lQ (e := e) (z := z) (z' := z) k ⟨lF_N (Or.inl rfl), eV_N (k.2 e he).1 (Or.inl ⟨rfl, hp⟩), rfl⟩ rfl (fun _ _ => rfl)
theorem K_forge {A : MA} {c e : Nat} {k t a b d f : Int32} {G : HG} {O : HO} {z : ZZ} (kk : K A c G O z) (hn : ¬ m_forgeN A e k t) : K (m_forge A e k t a b d f) c G O z := by
  unfold m_forge
  refine K_post kk (fun _ => ?_)
  by_cases h0 : k = 0
  · rw [if_pos h0]
    exact pOK_0 (by decide)
  · rw [if_neg h0]
    by_cases h2 : k = 2
    · rw [if_pos h2]
      exact pOK_0 (by decide)
    · rw [if_neg h2]
      have h8 : k = 8 := by
        apply Classical.byContradiction
        intro h8
        exact hn (Or.inl ⟨h0, h2, h8⟩)
      rw [h8]
      exact pOK_0 (by decide)
theorem K_pop {A : MA} {c e s : Nat} {G : HG} {O : HO} {z : ZZ} (k : K A c G O z) (he : e < 2) (hs : s < 3) : K (m_pop A e s) c G O z := by
  unfold m_pop
  split
  · exact k
  · rename_i q hq
    have hr : ∀ x ∈ (aR A e).eraseP (isS s), x ∈ aR A e := fun x hx => List.mem_of_mem_eraseP hx
    have hlen : ((aR A e).eraseP (isS s)).length ≤ (aR A e).length := List.length_eraseP_le
    obtain ⟨⟨k1, k2, k3⟩, k4⟩ := k
    have hf : frE e A (sI (sN (uR A (up1 (aR A) e ((aR A e).eraseP (isS s)))) e (19 + s) (aN A e (19 + s) + 1)) e 10 (aI A e 10 - I q.2.2)) := .trans (.trans (B := uR A (up1 (aR A) e ((aR A e).eraseP (isS s)))) ⟨fun x hx => ⟨⟨rfl, rfl⟩, ⟨rfl, rfl⟩, ⟨rfl, rfl⟩, up1_ne hx⟩, rfl⟩ fr_sN) fr_sI
    refine ⟨⟨k1, k2, cK_cg (fun x _ i hi => up2_ne2 (by omega)) rfl rfl k3⟩, fun x hx => ?_⟩
    obtain ⟨v, ec, u⟩ := k4 x hx
    by_cases hxe : x = e
    · subst hxe
      obtain ⟨⟨⟨b, ⟨c1, c2⟩, c0⟩, v2⟩⟩ : ∃ _ : eV A x (z x), True := ⟨v, trivial⟩
      have hR : aR (uR A (up1 (aR A) x ((aR A x).eraseP (isS s)))) x = (aR A x).eraseP (isS s) := up1_eq
      have vR : eV (uR A (up1 (aR A) x ((aR A x).eraseP (isS s)))) x (z x) := by
        refine ⟨⟨b, ⟨fun y hy => ?_, c2⟩, c0⟩, v2⟩
        rw [hR] at hy
        exact c1 y (hr y hy)
      have eR : eC (uR A (up1 (aR A) x ((aR A x).eraseP (isS s)))) x c (z x) := by
        obtain ⟨w1, w2, w3, w4, r1, r2, r3⟩ := ec
        refine ⟨w1, w2, w3, w4, ?_, r2, fun y hy => ?_⟩
        · rw [hR]
          show _ + cHd A x ≤ c
          omega
        · rw [hR] at hy
          exact r3 y (hr y hy)
      have uR' : uK (uR A (up1 (aR A) x ((aR A x).eraseP (isS s)))) x G O := u
      have l1 : lF x (uR A (up1 (aR A) x ((aR A x).eraseP (isS s)))) (sI (sN (uR A (up1 (aR A) x ((aR A x).eraseP (isS s)))) x (19 + s) (aN A x (19 + s) + 1)) x 10 (aI A x 10 - I q.2.2)) := .trans (lF_N (by omega)) (lF_I3 (by decide))
      exact ⟨eV_I3 (eV_N vR (Or.inr (Or.inr (Or.inr (by omega))))) (by decide), eC_lF l1 eR, uK_lF k1 l1 uR'⟩
    · exact ⟨eV_fr hf hxe v, eC_fr hf hxe ec, uK_fr hf hxe u⟩
