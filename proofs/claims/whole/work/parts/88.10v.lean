theorem pOK_0 {key : Int32} {G : HG} {s : Nat} {t k a b c d e : Int32} (hk : k = 0 ∨ k = 2 ∨ k = 3 ∨ k = 6 ∨ k = 7 ∨ k = 8) : pOK key G s (pkt t k a b c d e) := by
  have h : ∀ v : Int32, (v = 0 ∨ v = 2 ∨ v = 3 ∨ v = 6 ∨ v = 7 ∨ v = 8) → (v = 0 ∨ v = 1 ∨ v = 2 ∨ v = 3 ∨ v = 4 ∨ v = 5 ∨ v = 6 ∨ v = 7 ∨ v = 8) ∧ v ≠ 4 ∧ v ≠ 5 ∧ v ≠ 1 := by
    rintro v (rfl | rfl | rfl | rfl | rfl | rfl) <;> decide
  obtain ⟨h1, h2, h3, h4⟩ := h k hk
  exact ⟨h1, fun q => absurd q h2, fun q => absurd q h3, fun q => absurd q h4⟩
theorem K_echo {A : MA} {c p : Nat} {q : Nat → Int32} {G : HG} {O : HO} {z : ZZ} (k : K A c G O z) : K (m_echo A p q) (c + 1) G O z := by
  unfold m_echo
  split
  · rename_i hr
    have k' := K_echo1 k hr
    unfold m_echo2
    split
    · exact K_post k' (fun _ => pOK_0 (by decide))
    · exact k'
  · exact K_up (Nat.le_succ c) k
theorem K_init {A : MA} {c p : Nat} {t : Int32} {G : HG} {O : HO} {z : ZZ} (k : K A c G O z) : K (m_init A p t) c G O z := by
  refine K_post k (fun _ => ⟨Or.inr (Or.inl rfl), fun q => absurd q ?_, fun q => absurd q ?_, fun _ _ => rfl⟩)
  · show ¬ (1 : Int32) = 4; decide
  · show ¬ (1 : Int32) = 5; decide
/-- tries begin -/
theorem eC_try {A : MA} {e c d : Nat} {z : Nat → Nat} {t : Nat} (k : eC A e c z) (ht : t ≤ gN A 2) (hd : gN A 0 + z 2 ≤ d) (hd2 : d < 5000) : eC (sN (sN A e 0 t) e 1 d) e c z := by
  obtain ⟨⟨k1, k2, k3⟩, ⟨k4, k5, k6⟩, k7, k8, q1, q2, q3⟩ := k
  have q : ∀ j, j ≠ 0 → j ≠ 1 → aN (sN (sN A e 0 t) e 1 d) e j = aN A e j := fun j hj hj2 => (up2_ne2 hj2).trans (up2_ne2 hj)
  have qe : aN (sN (sN A e 0 t) e 1 d) e 1 = d := up2_eq
  have qf : aN (sN (sN A e 0 t) e 1 d) e 0 = t := (up2_ne2 (by decide)).trans up2_eq
  refine ⟨⟨k1, ?_, fun s hs => ?_⟩, ⟨fun _ => ?_, ?_, k6⟩, k7, k8, q1, fun s hs => ?_, q3⟩
  · rw [q 4 (by omega) (by omega)]; exact k2
  · rw [q _ (by omega) (by omega)]; exact k3 s hs
  · rw [qe, qf]; exact ⟨hd, ht⟩
  · rw [qe]; exact hd2
  · rw [q _ (by omega) (by omega)]; exact q2 s hs
theorem eV_try {A : MA} {e d t : Nat} {z : Nat → Nat} (k : eV A e z) (ht : t < 100) : eV (sN (sN A e 0 t) e 1 d) e z := by
  obtain ⟨⟨⟨b1, b2, b3, b4, b5, b6, b7, b8⟩, ⟨c1, c2⟩, c3, c4, c5⟩, k2, k3, k4, k5⟩ := k
  have q : ∀ j, j ≠ 0 → j ≠ 1 → aN (sN (sN A e 0 t) e 1 d) e j = aN A e j := fun j hj hj2 => (up2_ne2 hj2).trans (up2_ne2 hj)
  have qf : aN (sN (sN A e 0 t) e 1 d) e 0 = t := (up2_ne2 (by decide)).trans up2_eq
  refine ⟨⟨⟨?_, ?_, ?_, ?_, b5, b6, fun p' hp' => ⟨?_, ?_⟩, b8⟩, ⟨c1, fun s hs => ?_⟩, fun p' hp' => ?_, ?_, c5⟩, fun p' hp' hr => ?_, fun h3 p' hp' => ?_, fun n n1 n2 n3 => ?_, ?_⟩
  · rw [q 2 (by omega) (by omega)]; exact b1
  · rw [q 3 (by omega) (by omega), q 4 (by omega) (by omega)]; exact b2
  · rw [q 3 (by omega) (by omega), q 4 (by omega) (by omega)]; exact b3
  · rw [q 4 (by omega) (by omega)]; exact b4
  · rw [q _ (by omega) (by omega)]; exact (b7 p' hp').1
  · rw [q _ (by omega) (by omega)]; exact (b7 p' hp').2
  · rw [q _ (by omega) (by omega)]; exact c2 s hs
  · rw [q _ (by omega) (by omega)]; exact c3 p' hp'
  · rw [qf]; exact ht
  · rw [q _ (by omega) (by omega)]; exact k2 p' hp' hr
  · rw [q _ (by omega) (by omega)]; exact k3 h3 p' hp'
  · rw [q 3 (by omega) (by omega)] at n1
    rw [q 4 (by omega) (by omega)] at n2
    exact k4 n n1 n2 n3
  · rw [q 3 (by omega) (by omega), q 22 (by omega) (by omega)]; exact k5
/-- an end's own ints change, it was not up and is not up -/
theorem eV_st {A : MA} {e : Nat} {z : Nat → Nat} {f : Nat → Nat → Int32} (k : eV A e z) (h : aI A e 0 ≠ 3) (hf : f e 0 ≠ 3) : eV (uI A f) e z := by
  obtain ⟨k1, k2, k3, k4, k5⟩ := k
  exact ⟨k1, fun p hp hr => absurd (k2 p hp hr).1 h, fun h3 => absurd h3 hf, k4, k5⟩
theorem eC_tries {A A' : MA} {e c : Nat} {z : Nat → Nat} (hz : z 2 ≤ 1) (hc : c < 4000) (ec : eC A e c z) (e1 : aN A' = aN A) (e2 : gN A' = gN A) (e4 : aH A' = aH A) (e5 : aR A' = aR A) : eC (m_tries A' e) e c z := by
  obtain ⟨⟨p1, p2, p3⟩, ⟨p4, p5, p6⟩, p7, p8, r1, r2, r3⟩ := ec
  have hN : aN (m_tries A' e) = up2 (up2 (aN A) e 0 1) e 1 (gN A 0 + 3) := by
    show up2 (up2 (aN A') e 0 1) e 1 (gN A' 0 + 3) = _
    rw [e1, e2]
  have q : ∀ j, j ≠ 0 → j ≠ 1 → aN (m_tries A' e) e j = aN A e j := fun j hj hj2 => by rw [hN, up2_ne2 hj2, up2_ne2 hj]
  have qe : aN (m_tries A' e) e 1 = gN A 0 + 3 := by rw [hN, up2_eq]
  have qf : aN (m_tries A' e) e 0 = 1 := by rw [hN, up2_ne2 (by decide), up2_eq]
  have hn' : gN (m_tries A' e) = gN A := e2
  have hH' : aH (m_tries A' e) = aH A := e4
  have hR' : aR (m_tries A' e) = aR A := e5
  unfold eC qC cHa cHd
  rw [hn', hH', hR', q 4 (by omega) (by omega), qe, qf]
  refine ⟨⟨p1, p2, fun s hs => ?_⟩, ⟨fun _ => ⟨by omega, p6⟩, by omega, p6⟩, p7, p8, r1, fun s hs => ?_, r3⟩
  · rw [q _ (by omega) (by omega)]; exact p3 s hs
  · rw [q _ (by omega) (by omega)]; exact r2 s hs
theorem K_start {A : MA} {c : Nat} {t : Int32} {G : HG} {O : HO} {z : ZZ} (hz : z 0 2 ≤ 1) (k : K A c G O z) (h0 : aI A 0 0 = 0) (ht : t ≠ 0) (hn : t ∉ gT A 0) (hc : c < 3999) : K (m_start A t) (c + 1) G O z := by
  have hlen := k.1.2.2.1.1
  have kk := K_up (Nat.le_succ c) k
  obtain ⟨⟨k1, k2, k3⟩, k4⟩ := kk
  let B : MA := sI (sI (uGT A (up1 (gT A) 0 (gT A 0 ++ [t]))) 0 0 1) 0 1 t
  let D : MA := m_post B 0 (pkt 0 0 t 0 0 0 0)
  have i0 : aI B 0 0 = 1 := show up2 (up2 (aI A) 0 0 1) 0 1 t 0 0 = 1 from (up2_ne2 (by decide)).trans up2_eq
  have i1 : aI B 0 1 = t := show up2 (up2 (aI A) 0 0 1) 0 1 t 0 1 = t from up2_eq
  have hfB : frE 0 A B := .trans (A := A) (B := uGT A (up1 (gT A) 0 (gT A 0 ++ [t]))) ⟨fun _ _ => ⟨⟨rfl, rfl⟩, ⟨rfl, rfl⟩, ⟨rfl, rfl⟩, rfl⟩, rfl⟩ (.trans fr_sI fr_sI)
  have g0 : gT B 0 = gT A 0 ++ [t] := show up1 (gT A) 0 (gT A 0 ++ [t]) 0 = _ from up1_eq
  have g1 : gT B 1 = gT A 1 := show up1 (gT A) 0 (gT A 0 ++ [t]) 1 = _ from up1_ne (by decide)
  have hI1 : aI B 1 = aI A 1 := (hfB.1 1 (by decide)).1.1
  have hpB : pK B G := k2
  have hpD : pK D G := pK_post hpB (fun _ => pOK_0 (by decide))
  have hcB : cK B G (c + 1) := by
    obtain ⟨⟨c1, c1'⟩, ⟨c2, c3⟩, ⟨c4, c5⟩, c6, c7⟩ := k3
    refine ⟨⟨?_, ?_⟩, ⟨fun _ => ?_, fun h => ?_⟩, ⟨?_, ?_⟩, fun y hy => ?_, fun x hx => ?_⟩
    · rw [g0, List.length_append, List.length_singleton]; omega
    · rw [g1]; exact c1'
    · rw [i1, g0]; exact ⟨List.mem_append_right _ (List.mem_singleton_self _), ht⟩
    · rw [i0] at h; exact absurd h (by decide)
    · rw [hI1]; exact c4
    · rw [hI1, g1]; exact c5
    · obtain ⟨x, x1, x2, x3, x4⟩ := c6 y hy
      refine ⟨x, ?_, x2, x3, fun _ => ?_⟩
      · rw [g0]; exact List.mem_append_left _ x1
      · rw [i1]
        exact fun hx => hn (hx ▸ x1)
    · rw [g1]; exact c7 x hx
  have hlD : lF 0 B D := post_lF
  have hcD : cK D G (c + 1) := cK_cg (lF_I hlD) hlD.1.2.1 hlD.1.2.2 hcB
  refine ⟨⟨k1, hpD, hcD⟩, fun x hx => ?_⟩
  obtain ⟨v, ec, u⟩ := k4 x hx
  by_cases hx0 : x = 0
  · subst hx0
    have n0 : gN D = gN A := (m_post_gN _ _ _).trans rfl
    have hl := ec.2.1.2.2
    have vB : eV B 0 (z 0) := by
      have : eV (uI A (aI B)) 0 (z 0) → eV B 0 (z 0) := fun w => w
      refine this (eV_st (A := A) v ?_ ?_)
      · rw [h0]; decide
      · show aI B 0 0 ≠ 3
        rw [i0]; decide
    have hl100 := v.1.2.2.2.2
    refine ⟨eV_try (eV_post vB) (by decide), ?_, fun h3 => ?_⟩
    · exact eC_tries (A := A) hz (by omega) ec (m_post_aN _ _ _) (m_post_gN _ _ _) (by show aH (m_post B _ _) = _; unfold m_post; split <;> rfl) (m_post_aR _ _ _)
    · have : aI (m_start A t) 0 0 = aI B 0 0 := congrFun (congrFun (m_post_aI B 0 (pkt 0 0 t 0 0 0 0)) 0) 0
      rw [this, i0] at h3
      exact absurd h3 (by decide)
  · have hf : frE 0 A (m_start A t) := .trans hfB (.trans fr_post (.trans fr_sN fr_sN))
    exact ⟨eV_fr hf hx0 v, eC_fr hf hx0 ec, uK_fr hf hx0 u⟩
theorem K_iack {A : MA} {c p : Nat} {q : Nat → Int32} {G : HG} {O : HO} {z : ZZ} (hz : z 0 2 ≤ 1) (k : K A c G O z) (h1 : aI A 0 0 = 1) (hq : q 2 = kTag (gI A 4) (aI A 0 1)) (hc : c < 4000) : K (m_iack A p q) c G O z := by
  obtain ⟨⟨k1, k2, k3⟩, k4⟩ := k
  let B : MA := sI (m_ck (sI A 0 2 (q 2)) q) 0 0 2
  let D : MA := m_post B p (m_echoP B 0)
  have i0 : aI B 0 0 = 2 := show up2 (up2 (aI A) 0 2 (q 2)) 0 0 2 0 0 = 2 from up2_eq
  have i1 : aI B 0 1 = aI A 0 1 := show up2 (up2 (aI A) 0 2 (q 2)) 0 0 2 0 1 = aI A 0 1 from (up2_ne2 (by decide)).trans (up2_ne2 (by decide))
  have i2 : aI B 0 2 = q 2 := show up2 (up2 (aI A) 0 2 (q 2)) 0 0 2 0 2 = q 2 from (up2_ne2 (by decide)).trans up2_eq
  have hfB : frE 0 A B := .trans fr_sI (.trans (B := m_ck (sI A 0 2 (q 2)) q) ⟨fun _ _ => ⟨⟨rfl, rfl⟩, ⟨rfl, rfl⟩, ⟨rfl, rfl⟩, rfl⟩, rfl⟩ fr_sI)
  have hg : gI B 4 = gI A 4 := show (if 4 < 4 then q (3 + 4) else gI A 4) = gI A 4 from if_neg (by decide)
  have hI1 : aI B 1 = aI A 1 := (hfB.1 1 (by decide)).1.1
  have hpB : pK B G := ⟨k2.1, fun r hr q' hq' => by rw [hg]; exact k2.2 r hr q' hq'⟩
  have hpD : pK D G := pK_post hpB (fun _ => pOK_0 (by decide))
  have hcB : cK B G c := by
    obtain ⟨c1, ⟨c2, c3⟩, ⟨c4, c5⟩, c6, c7⟩ := k3
    refine ⟨c1, ⟨fun _ => ?_, fun h => ?_⟩, ⟨?_, ?_⟩, fun y hy => ?_, fun x hx => ?_⟩
    · rw [i1]; exact c2 (Or.inl h1)
    · rw [i1, i2, hg]; exact hq
    · rw [hI1]; exact c4
    · rw [hI1, hg]; exact c5
    · obtain ⟨x, x1, x2, x3, x4⟩ := c6 y hy
      refine ⟨x, x1, x2, by rw [hg]; exact x3, fun _ => ?_⟩
      rw [i1]
      exact x4 (Or.inl h1)
    · rw [hg]; exact c7 x hx
  have hlD : lF 0 B D := post_lF
  have hcD : cK D G c := cK_cg (lF_I hlD) hlD.1.2.1 hlD.1.2.2 hcB
  refine ⟨⟨k1, hpD, hcD⟩, fun x hx => ?_⟩
  obtain ⟨v, ec, u⟩ := k4 x hx
  by_cases hx0 : x = 0
  · subst hx0
    have vB : eV B 0 (z 0) := by
      have : eV (uI A (aI B)) 0 (z 0) → eV B 0 (z 0) := fun w => w
      refine this (eV_st (A := A) v ?_ ?_)
      · rw [h1]; decide
      · show aI B 0 0 ≠ 3
        rw [i0]; decide
    refine ⟨eV_try (eV_post vB) (by decide), ?_, fun h3 => ?_⟩
    · exact eC_tries (A := A) hz (by omega) ec (m_post_aN _ _ _) (m_post_gN _ _ _) (by show aH (m_post B _ _) = _; unfold m_post; split <;> rfl) (m_post_aR _ _ _)
    · have : aI (m_iack A p q) 0 0 = aI B 0 0 := congrFun (congrFun (m_post_aI B p (m_echoP B 0)) 0) 0
      rw [this, i0] at h3
      exact absurd h3 (by decide)
  · have hf : frE 0 A (m_iack A p q) := .trans hfB (.trans fr_post (.trans fr_sN fr_sN))
    exact ⟨eV_fr hf hx0 v, eC_fr hf hx0 ec, uK_fr hf hx0 u⟩
