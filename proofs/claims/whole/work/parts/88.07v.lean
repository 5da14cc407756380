/-! Light steps keep it. -/
theorem eV_bt {A : MA} {e : Nat} {z : Nat → Nat} (k : eV A e z) : bO A e := k.1.1
theorem eV_B {A : MA} {e i : Nat} {v : Bool} {z : Nat → Nat} (k : eV A e z) (hi : ¬ (2 ≤ i ∧ i < 4)) : eV (sB A e i v) e z := by
  obtain ⟨k1, k2, k3, k4, k5⟩ := k
  have q : ∀ p, p < 2 → aB (sB A e i v) e (2 + p) = aB A e (2 + p) := fun p hp => up2_ne2 (by omega)
  refine ⟨k1, fun p hp hr => ?_, k3, fun n n1 n2 n3 => ?_, k5⟩
  · rw [q p hp] at hr
    exact k2 p hp hr
  · have := k1.1.2.2.2.2.1 n
    rw [show aB (sB A e i v) e (2 + oPa (sB A e i v) e n) = aB A e (2 + oPa A e n) from q _ this]
    exact k4 n n1 n2 n3
theorem lF_B {A : MA} {e i : Nat} {v : Bool} : lF e A (sB A e i v) := ⟨⟨fr_sB, rfl, rfl⟩, fun _ _ => rfl, fun _ _ => rfl, Nat.le_refl _, fun _ => rfl, rfl, rfl, rfl⟩
theorem lF_I3 {A : MA} {e i : Nat} {v : Int32} (hi : 3 ≤ i) : lF e A (sI A e i v) := ⟨⟨fr_sI, rfl, rfl⟩, fun j hj => up2_ne2 (by omega), fun _ _ => rfl, Nat.le_refl _, fun _ => rfl, rfl, rfl, rfl⟩
theorem eV_I3 {A : MA} {e i : Nat} {v : Int32} {z : Nat → Nat} (k : eV A e z) (hi : 3 ≤ i) : eV (sI A e i v) e z := by
  obtain ⟨k1, k2, k3, k4, k5⟩ := k
  have q : aI (sI A e i v) e 0 = aI A e 0 := up2_ne2 (by omega)
  refine ⟨k1, fun p hp hr => ?_, fun h3 => k3 (q ▸ h3), k4, k5⟩
  rw [q]
  exact k2 p hp hr
theorem lF_N {A : MA} {e i v : Nat} (hi : i = 2 ∨ (7 ≤ i ∧ i < 13) ∨ i = 22 ∨ (19 ≤ i ∧ i < 22)) : lF e A (sN A e i v) := ⟨⟨fr_sN, rfl, rfl⟩, fun _ _ => rfl, fun j hj => up2_ne2 (by omega), Nat.le_of_eq (up2_ne2 (by omega)).symm, fun _ => rfl, rfl, rfl, rfl⟩
theorem eV_N {A : MA} {e i v : Nat} {z : Nat → Nat} (k : eV A e z) (hi : (i = 2 ∧ v < 2) ∨ (7 ≤ i ∧ i < 9 ∧ v ≤ 8) ∨ (9 ≤ i ∧ i < 11 ∧ 1 ≤ v ∧ v ≤ 24) ∨ (19 ≤ i ∧ i < 22)) : eV (sN A e i v) e z := by
  obtain ⟨⟨⟨b1, b2, b3, b4, b5, b6, b7, b8⟩, ⟨c1, c2⟩, c3, c4, c5⟩, k2, k3, k4, k5⟩ := k
  have q : ∀ j, j ≠ i → aN (sN A e i v) e j = aN A e j := fun j hj => up2_ne2 hj
  have qe : aN (sN A e i v) e i = v := up2_eq
  refine ⟨⟨⟨?_, ?_, ?_, ?_, b5, b6, fun p hp => ⟨?_, ?_⟩, b8⟩, ⟨c1, fun s hs => ?_⟩, fun p hp => ?_, ?_, c5⟩, fun p hp hr => ?_, fun h3 p hp => ?_, fun n n1 n2 n3 => ?_, ?_⟩
  · by_cases hz : 2 = i
    · rw [hz, qe]; omega
    · rw [q 2 hz]; exact b1
  · rw [q 3 (by omega), q 4 (by omega)]; exact b2
  · rw [q 3 (by omega), q 4 (by omega)]; exact b3
  · rw [q 4 (by omega)]; exact b4
  · by_cases hz : 7 + p = i
    · rw [hz, qe]; omega
    · rw [q _ hz]; exact (b7 p hp).1
  · by_cases hz : 9 + p = i
    · rw [hz, qe]; omega
    · rw [q _ hz]; exact (b7 p hp).2
  · rw [q _ (by omega)]; exact c2 s hs
  · rw [q _ (by omega)]; exact c3 p hp
  · rw [q 0 (by omega)]; exact c4
  · rw [q _ (by omega)]; exact k2 p hp hr
  · by_cases hz : 9 + p = i
    · rw [hz, qe]; omega
    · rw [q _ hz]; exact k3 h3 p hp
  · rw [q 3 (by omega)] at n1
    rw [q 4 (by omega)] at n2
    exact k4 n n1 n2 n3
  · rw [q 3 (by omega), q 22 (by omega)]; exact k5
/-- a word changes its state; one that is then out was out on its path before -/
theorem eV_O {A : MA} {e : Nat} {f : Nat → Nat → OW} {z : Nat → Nat} (k : eV A e z) (hp : ∀ n, (f e n).2.2.1 < 2) (hs : ∀ n, (f e n).2.2.2 ≤ 2) (ho : ∀ n, (f e n).2.1 = 2 → aO A e n = aO A e n → oSt A e n = 2 ∧ (f e n).2.2.1 = oPa A e n) : eV (uO A f) e z := by
  obtain ⟨⟨⟨b1, b2, b3, b4, b5, b6, b7, b8⟩, c1⟩, k2, k3, k4, k5⟩ := k
  refine ⟨⟨⟨b1, b2, b3, b4, hp, hs, b7, b8⟩, c1⟩, k2, k3, fun n n1 n2 n3 => ?_, k5⟩
  obtain ⟨x, y⟩ := ho n n3 rfl
  rw [show oPa (uO A f) e n = oPa A e n from y]
  exact k4 n n1 n2 x
theorem lF_O {A : MA} {e : Nat} {f : Nat → Nat → OW} (h : ∀ n, (f e n).1 = oWd A e n) (ho : ∀ x, x ≠ e → f x = aO A x) : lF e A (uO A f) := ⟨⟨fr_uO ho, rfl, rfl⟩, fun _ _ => rfl, fun _ _ => rfl, Nat.le_refl _, h, rfl, rfl, rfl⟩
/-- a timer is set -/
theorem eV_set {A : MA} {e p v : Nat} {z : Nat → Nat} (k : eV A e z) (hp : p < 2) (hv : gN A 0 + z p ≤ v) (hv2 : v < 5000) : eV (sN A e (11 + p) v) e z := by
  obtain ⟨⟨⟨b1, b2, b3, b4, b5, b6, b7, b8⟩, ⟨c1, c2⟩, c3, c4, c5⟩, k2, k3, k4, k5⟩ := k
  have q : ∀ j, j ≠ 11 + p → aN (sN A e (11 + p) v) e j = aN A e j := fun j hj => up2_ne2 hj
  have qe : aN (sN A e (11 + p) v) e (11 + p) = v := up2_eq
  refine ⟨⟨⟨?_, ?_, ?_, ?_, b5, b6, fun p' hp' => ⟨?_, ?_⟩, b8⟩, ⟨c1, fun s hs => ?_⟩, fun p' hp' => ?_, ?_, c5⟩, fun p' hp' hr => ?_, fun h3 p' hp' => ?_, fun n n1 n2 n3 => ?_, ?_⟩
  · rw [q 2 (by omega)]; exact b1
  · rw [q 3 (by omega), q 4 (by omega)]; exact b2
  · rw [q 3 (by omega), q 4 (by omega)]; exact b3
  · rw [q 4 (by omega)]; exact b4
  · rw [q _ (by omega)]; exact (b7 p' hp').1
  · rw [q _ (by omega)]; exact (b7 p' hp').2
  · rw [q _ (by omega)]; exact c2 s hs
  · by_cases hz : p' = p
    · subst hz; rw [qe]; exact hv2
    · rw [q _ (by omega)]; exact c3 p' hp'
  · rw [q 0 (by omega)]; exact c4
  · have := k2 p' hp' hr
    by_cases hz : p' = p
    · subst hz; rw [qe]; exact ⟨this.1, hv⟩
    · rw [q _ (by omega)]; exact this
  · rw [q _ (by omega)]; exact k3 h3 p' hp'
  · rw [q 3 (by omega)] at n1
    rw [q 4 (by omega)] at n2
    exact k4 n n1 n2 n3
  · rw [q 3 (by omega), q 22 (by omega)]; exact k5
/-- a word goes out -/
theorem eV_out {A : MA} {e n p : Nat} {z : Nat → Nat} (k : eV A e z) (hp : p < 2) (hz : z p ≤ 1) (h3 : aI A e 0 = 3) : eV (m_timer (uO A (up2 (aO A) e n (oWd A e n, 2, p, 0))) e p) e z := by
  have hb5 := k.1.1.2.2.2.2.1
  have hb6 := k.1.1.2.2.2.2.2.1
  have hw := k.2.2.1 h3 p hp
  have hw2 := (k.1.1.2.2.2.2.2.2.1 p hp).2
  have h8 := k.1.1.2.2.2.2.2.2.2
  have hP : ∀ m, (up2 (aO A) e n (oWd A e n, (2 : Int32), p, 0) e m).2.2.1 < 2 := fun m => by
    unfold up2
    split
    · exact hp
    · exact hb5 m
  have hS : ∀ m, (up2 (aO A) e n (oWd A e n, (2 : Int32), p, 0) e m).2.2.2 ≤ 2 := fun m => by
    unfold up2
    split
    · exact Nat.zero_le _
    · exact hb6 m
  have hO : ∀ m, m ≠ n → up2 (aO A) e n (oWd A e n, (2 : Int32), p, 0) e m = aO A e m := fun m hm => up2_ne2 hm
  obtain ⟨⟨⟨b1, b2, b3, b4, b5, b6, b7, b8⟩, c0⟩, k2, k3, k4, k5⟩ := k
  have hR : ∀ B : MA, aO B = up2 (aO A) e n (oWd A e n, 2, p, 0) → aN B e 3 = aN A e 3 → aN B e 4 = aN A e 4 → (∀ q, q < 2 → aB A e (2 + q) = true → aB B e (2 + q) = true) → aB B e (2 + p) = true → outR B e := by
    intro B o1 o2 o3 o4 o5 m m1 m2 m3
    rw [o2] at m1
    rw [o3] at m2
    unfold oSt at m3
    unfold oPa
    rw [o1] at m3 ⊢
    by_cases hm : m = n
    · subst hm
      rw [up2_eq]
      exact o5
    · rw [hO m hm] at m3 ⊢
      exact o4 _ (b5 m) (k4 m m1 m2 m3)
  unfold m_timer
  by_cases hr : aB A e (2 + p) = true
  · rw [if_pos (show aB (uO A (up2 (aO A) e n (oWd A e n, 2, p, 0))) e (2 + p) = true from hr)]
    exact ⟨⟨⟨b1, b2, b3, b4, hP, hS, b7, b8⟩, c0⟩, k2, k3, hR _ rfl rfl rfl (fun _ _ x => x) hr, k5⟩
  · rw [if_neg (show ¬ aB (uO A (up2 (aO A) e n (oWd A e n, 2, p, 0))) e (2 + p) = true from hr)]
    have hb : ∀ i, i ≠ 2 + p → aB (sB (uO A (up2 (aO A) e n (oWd A e n, 2, p, 0))) e (2 + p) true) e i = aB A e i := fun i hi => up2_ne2 hi
    have hbe : aB (sB (uO A (up2 (aO A) e n (oWd A e n, 2, p, 0))) e (2 + p) true) e (2 + p) = true := up2_eq
    have q : ∀ j, j ≠ 11 + p → up2 (aN A) e (11 + p) (gN A 0 + aN A e (9 + p)) e j = aN A e j := fun j hj => up2_ne2 hj
    have qe : up2 (aN A) e (11 + p) (gN A 0 + aN A e (9 + p)) e (11 + p) = gN A 0 + aN A e (9 + p) := up2_eq
    refine ⟨⟨⟨?_, ?_, ?_, ?_, hP, hS, fun p' hp' => ⟨?_, ?_⟩, b8⟩, ⟨c0.1.1, fun s hs => ?_⟩, fun p' hp' => ?_, ?_, c0.2.2.2⟩, fun p' hp' hr' => ?_, fun _ p' hp' => ?_, hR _ rfl (q 3 (by omega)) (q 4 (by omega)) (fun q' hq' x => ?_) hbe, ?_⟩
    · show up2 (aN A) e (11 + p) _ e 2 < 2
      rw [q 2 (by omega)]; exact b1
    · show up2 (aN A) e (11 + p) _ e 3 ≤ up2 (aN A) e (11 + p) _ e 4
      rw [q 3 (by omega), q 4 (by omega)]; exact b2
    · show up2 (aN A) e (11 + p) _ e 4 ≤ up2 (aN A) e (11 + p) _ e 3 + 24
      rw [q 3 (by omega), q 4 (by omega)]; exact b3
    · show up2 (aN A) e (11 + p) _ e 4 < 4000
      rw [q 4 (by omega)]; exact b4
    · show up2 (aN A) e (11 + p) _ e (7 + p') ≤ 8
      rw [q _ (by omega)]; exact (b7 p' hp').1
    · show up2 (aN A) e (11 + p) _ e (9 + p') ≤ 24
      rw [q _ (by omega)]; exact (b7 p' hp').2
    · show up2 (aN A) e (11 + p) _ e (23 + s) ≤ 512
      rw [q _ (by omega)]; exact c0.1.2 s hs
    · show up2 (aN A) e (11 + p) (gN A 0 + aN A e (9 + p)) e (11 + p') < 5000
      by_cases hz : p' = p
      · subst hz; rw [qe]; omega
      · rw [q _ (by omega)]; exact c0.2.1 p' hp'
    · show up2 (aN A) e (11 + p) _ e 0 < 100
      rw [q 0 (by omega)]; exact c0.2.2.1
    · show aI A e 0 = 3 ∧ gN A 0 + z p' ≤ up2 (aN A) e (11 + p) (gN A 0 + aN A e (9 + p)) e (11 + p')
      by_cases hz : p' = p
      · subst hz; rw [qe]; exact ⟨h3, by omega⟩
      · rw [q _ (by omega)]
        refine k2 p' hp' ?_
        rw [← hb (2 + p') (by omega)]
        exact hr'
    · show 1 ≤ up2 (aN A) e (11 + p) _ e (9 + p')
      rw [q _ (by omega)]; exact k3 h3 p' hp'
    · by_cases hz : q' = p
      · subst hz; exact hbe
      · exact (hb (2 + q') (by omega)).trans x
    · show up2 (aN A) e (11 + p) _ e 22 = up2 (aN A) e (11 + p) _ e 3
      rw [q 3 (by omega), q 22 (by omega)]; exact k5
theorem lF_timer {A : MA} {e p : Nat} (hp : p < 2) : lF e A (m_timer A e p) := by
  unfold m_timer
  split
  · exact lF_refl e A
  · exact lF_B.trans (lF_N (by omega))
theorem K_out {A : MA} {c e n p : Nat} {G : HG} {O : HO} {z : ZZ} (k : K A c G O z) (he : e < 2) (hp : p < 2) (hz : z e p ≤ 1) (h3 : aI A e 0 = 3) (h1 : aN A e 3 < n) (h2 : n ≤ aN A e 4) : K (m_out A e n p) c G O z := by
  have k' : K (m_post A (2 * e + p) (pdat (aI A e 2) n (oWd A e n))) c G O z := by
    refine K_post k (fun _ => ?_)
    rw [show (2 * e + p) / 2 = e by omega]
    have := (((k.2 e he).2.2 h3).1).2.1 n h1 h2
    refine ⟨Or.inr (Or.inr (Or.inr (Or.inr (Or.inl rfl)))), fun _ => ⟨fun _ _ => rfl, this, by show 1 ≤ n; omega⟩, fun q => absurd q ?_, fun q => absurd q ?_⟩
    · show ¬ (4 : Int32) = 5; decide
    · show ¬ (4 : Int32) = 1; decide
  have hO : aO A = aO (m_post A (2 * e + p) (pdat (aI A e 2) n (oWd A e n))) := (m_post_aO _ _ _).symm
  have hI : aI (m_post A (2 * e + p) (pdat (aI A e 2) n (oWd A e n))) e 0 = 3 := by rw [m_post_aI]; exact h3
  have hW : oWd A e n = oWd (m_post A (2 * e + p) (pdat (aI A e 2) n (oWd A e n))) e n := by unfold oWd; rw [← hO]
  unfold m_out
  rw [hO]
  generalize m_post A (2 * e + p) (pdat (aI A e 2) n (oWd A e n)) = B at k' hO hI hW
  rw [hW]
  refine K_lF (e := e) k' ((lF_O (fun m => ?_) (fun x hx => up2_row hx)).trans (lF_timer hp)) (eV_out (k'.2 e he).1 hp hz hI) rfl (fun _ _ => rfl) ?_
  · unfold up2
    split
    · rename_i hh; rw [hh.2]
    · rfl
  · refine pK_P ?_ ?_ k'.1.2.1
    · rw [m_timer_aP]
    · unfold m_timer
      split <;> rfl
theorem K_sendAll {c e : Nat} {G : HG} {O : HO} {z : ZZ} (he : e < 2) (hz : ∀ p, p < 2 → z e p ≤ 1) : ∀ (j : Nat) (A : MA), K A c G O z → aI A e 0 = 3 → K (m_sendAll e j A) c G O z
  | 0, A => fun k _ => k
  | j + 1, A => fun k h3 => by
    rw [m_sendAll]
    split
    · exact k
    · rename_i A' hs
      unfold m_sendOne at hs
      split at hs
      · cases hs
      · rename_i hf
        split at hs
        · cases hs
          have hpl := m_path_lt (n := m_fst A e) (k.2 e he).1.1.1
          have hg : aN A e 3 < m_fst A e := fstN_gt _ _ _
          have k' := K_out k he hpl (hz _ hpl) h3 hg (by omega)
          refine K_sendAll he hz j _ k' ?_
          unfold m_out m_timer
          split
          · show aI (m_post A _ _) e 0 = 3
            rw [m_post_aI]; exact h3
          · show aI (m_post A _ _) e 0 = 3
            rw [m_post_aI]; exact h3
        · cases hs
