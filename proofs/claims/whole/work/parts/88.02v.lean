/-! One way up is as good as starting again: from a put word on, at any time at most one message may become ready. -/
theorem up2_comm {α : Type} {f : Nat → Nat → α} {i j i' j' : Nat} {v v' : α} (h : j ≠ j') : up2 (up2 f i j v) i' j' v' = up2 (up2 f i' j' v') i j v := by
  funext a b
  unfold up2
  by_cases h1 : a = i' ∧ b = j'
  · rw [if_pos h1]
    by_cases h2 : a = i ∧ b = j
    · omega
    · rw [if_neg h2, if_pos h1]
  · rw [if_neg h1, if_neg h1]
theorem MA_N {A A' : MA} (h1 : A.1 = A'.1) (h2 : ∀ x i, aN A x i = aN A' x i) (h3 : A.2.2 = A'.2.2) : A = A' := Prod.ext h1 (Prod.ext (funext fun x => funext fun i => h2 x i) h3)
theorem move_1 (B : MA) (e f m : Nat) : (m_move B e f m).1 = B.1 := by
  unfold m_move
  dsimp only
  split <;> rfl
theorem move_2 (B : MA) (e f m : Nat) : (m_move B e f m).2.2 = (aB B, aO B, fun x k i => if x = e ∧ k = 1 ∧ f ≤ i ∧ i < f + m then false else aH B x k i, aW B, up1 (aR B) e (aR B e ++ [((aW B e f).2.1, (aW B e f).1, m)]), B.2.2.2.2.2.2.2) := by
  unfold m_move
  dsimp only
  split <;> rfl
theorem move_late {B : MA} {e f m L : Nat} (hs : (aW B e f).2.1 < 3) : m_move (sN B e 5 L) e f m = sN (m_move B e f m) e 5 L := by
  refine MA_N ?_ (fun x i => ?_) ?_
  · rw [move_1]
    exact (move_1 B e f m).symm
  · show _ = up2 (aN (m_move B e f m)) e 5 L x i
    rw [m_move_N]
    show (if x = e ∧ i = 23 + (aW B e f).2.1 then up2 (aN B) e 5 L e (23 + (aW B e f).2.1) + 1 else if (x = e ∧ i = 16 + (aW B e f).2.1) ∧ (aW B e f).2.2.2.2.2 = false then up2 (aN B) e 5 L e (16 + (aW B e f).2.1) + 1 else up2 (aN B) e 5 L x i) = _
    rw [up2_ne2 (show 23 + (aW B e f).2.1 ≠ 5 by omega), up2_ne2 (show 16 + (aW B e f).2.1 ≠ 5 by omega)]
    by_cases hz : x = e ∧ i = 5
    · rw [if_neg (by omega), if_neg (by omega), hz.1, hz.2, up2_eq, up2_eq]
    · have hu : ∀ g : Nat → Nat → Nat, up2 g e 5 L x i = g x i := fun g => if_neg hz
      rw [hu, hu, m_move_N]
  · rw [move_2]
    exact (move_2 B e f m).symm
def passC (e : Nat) : Nat → Nat → MA → MA
  | 0, _, B => B
  | k + 1, p, B => passC e k (p + 1) (m_stp B e p)
theorem passC_eq {e : Nat} : ∀ (k p : Nat) (B : MA), passC e k p B = m_pass B e p k
  | 0, p, B => rfl
  | k + 1, p, B => by
    have hh : ∀ (k p : Nat) (B : MA), passC e (k + 1) p B = m_stp (passC e k p B) e (p + k) := by
      intro k
      induction k with
      | zero => intro p B; rfl
      | succ k ih =>
        intro p B
        show passC e (k + 1) (p + 1) (m_stp B e p) = m_stp (passC e k (p + 1) (m_stp B e p)) e (p + (k + 1))
        rw [ih, show p + 1 + k = p + (k + 1) by omega]
    rw [hh, passC_eq k p B]
    rfl
theorem fstN_one {f : Nat → Bool} {p : Nat} : ∀ (k a : Nat), a < p → p ≤ a + k → f p = true → (∀ n, f n = true → n = p) → fstN f a k = p
  | 0, a => fun h1 h2 _ _ => by omega
  | k + 1, a => fun h1 h2 h3 h4 => by
    rw [fstN]
    by_cases h : f (a + 1) = true
    · rw [if_pos h]
      exact h4 _ h
    · rw [if_neg h]
      have : a + 1 ≠ p := fun z => h (z ▸ h3)
      exact fstN_one k (a + 1) (by omega) (by omega) h3 h4
theorem fstN_no {f : Nat → Bool} : ∀ (k a : Nat), (∀ n, f n = false) → fstN f a k = a + k + 1
  | 0, a => fun h => rfl
  | k + 1, a => fun h => by
    rw [fstN, if_neg (by rw [h]; decide), fstN_no k (a + 1) h]
    omega
theorem IJ_5 {B : MA} {e L : Nat} {H : List WC} {od : Nat → Nat} (h : IJ B e H od) : IJ (sN B e 5 L) e H od := by
  have q : ∀ s, aN (sN B e 5 L) e (16 + s) = aN B e (16 + s) := fun s => up2_ne2 (by omega)
  obtain ⟨a, b, c, d⟩ := h
  refine ⟨a, b, fun f m s o hM n h1 h2 => ?_, fun s hs => ?_⟩
  · rw [q]
    exact c f m s o hM n h1 h2
  · rw [q]
    exact d s hs
theorem Cd_5 {B : MA} {e L : Nat} {H : List WC} {f : Nat} : Cd (sN B e 5 L) e H f ↔ Cd B e H f := by
  have q : ∀ s, aN (sN B e 5 L) e (16 + s) = aN B e (16 + s) := fun s => up2_ne2 (by omega)
  unfold Cd
  simp only [q]
theorem hb16_5 {B : MA} {e L : Nat} (h : hb16 B e) (hL : aN B e 5 ≤ L) : hb16 (sN B e 5 L) e := fun m hm => by
  have := h m hm
  rw [show aN (sN B e 5 L) e 5 = L from up2_eq]
  omega
theorem WF_s {H : List WC} {od : Nat → Nat} (hW : WF H od) {f m s o : Nat} {l : Bool} (hM : Ms H f m s o l) : s < 3 ∧ o < f := by
  obtain ⟨f2, m2, s2, o2, l2, a, b, c, d, g⟩ := hW.1 f hM.1.1 (by have := Ms_len hM; have := hM.1; omega)
  obtain ⟨e1, _, e3, e4, _⟩ := Ms_uniq a hM b c (Nat.le_refl _) (by have := hM.1; omega)
  omega
theorem WF_o {H : List WC} {od : Nat → Nat} (hW : WF H od) {f m s o f' m' : Nat} (hM : Ms H f m s o false) (hM' : Ms H f' m' s o false) : f = f' := by
  have a := hW.2.1 f m s o f' m' o hM hM'
  have b := hW.2.1 f' m' s o f m o hM' hM
  omega
/-- what a chain of steps keeps: no message before p may become ready, and no two may -/
def JC (B : MA) (e : Nat) (H : List WC) (od : Nat → Nat) (p : Nat) : Prop := IJ B e H od ∧ hb16 B e ∧ (∀ f, Cd B e H f → p ≤ f) ∧ ∀ f f', Cd B e H f → Cd B e H f' → f = f'
theorem chain {e l L : Nat} {H : List WC} {od : Nat → Nat} (hW : WF H od) (hl : l ≤ 511) (hL : l ≤ L) : ∀ (k p : Nat) (B : MA), JC B e H od p → aN B e 5 = l → p + k = l + 17 → 1 ≤ p → ∀ K, cHd B e < K → m_rdy e K (sN B e 5 L) = sN (passC e k p B) e 5 L ∧ IJ (passC e k p B) e H od ∧ hb16 (passC e k p B) e ∧ ∀ f, ¬ Cd (passC e k p B) e H f
  | 0, p, B => fun hJ h5 hp h1 K hK => by
    obtain ⟨j1, j2, j3, j4⟩ := hJ
    have hno : ∀ f, ¬ Cd B e H f := fun f hc => by
      have a := j3 f hc
      obtain ⟨m, s, o, lo, hM, hh, _⟩ := hc
      have b := j2 f (hh 0 (by have := hM.1; omega))
      omega
    refine ⟨?_, j1, j2, hno⟩
    obtain ⟨K, rfl⟩ : ∃ K', K = K' + 1 := ⟨K - 1, by omega⟩
    have hnc : ∀ f, m_cand (sN B e 5 L) e f = false := fun f => by
      cases hz : m_cand (sN B e 5 L) e f with
      | false => rfl
      | true => exact absurd (Cd_5.mp ((cand_Cd hW (IJ_5 j1) (hb16_5 j2 (by omega)) f).mp hz)) (hno f)
    rw [m_rdy]
    have : m_rdy1 (sN B e 5 L) e = none := by
      unfold m_rdy1
      rw [fstN_no _ _ hnc, if_neg (by omega)]
    rw [this]
    rfl
  | k + 1, p, B => fun hJ h5 hp h1 K hK => by
    obtain ⟨j1, j2, j3, j4⟩ := hJ
    show m_rdy e K (sN B e 5 L) = sN (passC e k (p + 1) (m_stp B e p)) e 5 L ∧ _
    by_cases hc : m_cand B e p = true
    · have hC := (cand_Cd hW j1 j2 p).mp hc
      have hC' := hC
      obtain ⟨m, s, o, lo, hM, hh, hlo⟩ := hC
      have hs := (WF_s hW hM).1
      have hm := hM.1
      obtain ⟨w1, v, w2⟩ := Cd_whl j1 j2 hM hh
      have w3 := (Cd_whl (IJ_5 (L := L) j1) (hb16_5 j2 (show aN B e 5 ≤ L by omega)) hM hh).1
      have hst : m_stp B e p = m_move B e p m := by
        unfold m_stp
        rw [if_pos hc, w1]
      rw [show passC e (k + 1) p B = passC e k (p + 1) (m_stp B e p) from rfl, hst]
      obtain ⟨n1, n2, n3⟩ := IJ_move hW j1 j2 hM hs hh hlo
      have hp16 := j2 p (hh 0 (by omega))
      have hnew : ∀ f', Cd (m_move B e p m) e H f' → lo = false ∧ p < f' ∧ ∃ m', Ms H f' m' s (o + 1) false := fun f' hf' => by
        rcases n3 f' hf' with ⟨a, b⟩ | a
        · exact absurd (j4 f' p a hC') b
        · exact a
      have hJ' : JC (m_move B e p m) e H od (p + 1) := by
        refine ⟨n1, n2, fun f' hf' => (hnew f' hf').2.1, fun f f' hf hf' => ?_⟩
        obtain ⟨_, _, m1, a⟩ := hnew f hf
        obtain ⟨_, _, m2, b⟩ := hnew f' hf'
        exact WF_o hW a b
      have hcH : cHd (m_move B e p m) e < cHd B e := cHd_move (hh 0 (by omega)) h1 (by omega) (by omega)
      obtain ⟨K, rfl⟩ : ∃ K', K = K' + 1 := ⟨K - 1, by omega⟩
      have ih := chain hW hl hL k (p + 1) (m_move B e p m) hJ' ((m_move_5 B e p m (by rw [w2]; exact hs)).trans h5) (by omega) (by omega) K (by omega)
      refine ⟨?_, ih.2⟩
      rw [← ih.1, m_rdy]
      have hone : fstN (m_cand (sN B e 5 L) e) 0 (aN (sN B e 5 L) e 5 + 16) = p := by
        refine fstN_one _ _ (by omega) ?_ ((cand_Cd hW (IJ_5 j1) (hb16_5 j2 (by omega)) p).mpr (Cd_5.mpr hC')) (fun n hn => ?_)
        · rw [show aN (sN B e 5 L) e 5 = L from up2_eq]
          omega
        · exact j4 n p (Cd_5.mp ((cand_Cd hW (IJ_5 j1) (hb16_5 j2 (by omega)) n).mp hn)) hC'
      have : m_rdy1 (sN B e 5 L) e = some (sN (m_move B e p m) e 5 L) := by
        unfold m_rdy1
        rw [hone, if_pos (by rw [show aN (sN B e 5 L) e 5 = L from up2_eq]; omega), w3, move_late (by rw [w2]; exact hs)]
      rw [this]
    · have hst : m_stp B e p = B := by
        unfold m_stp
        rw [if_neg hc]
      rw [show passC e (k + 1) p B = passC e k (p + 1) (m_stp B e p) from rfl, hst]
      refine chain hW hl hL k (p + 1) B ⟨j1, j2, fun f hf => ?_, j4⟩ h5 (by omega) (by omega) K hK
      have a := j3 f hf
      have : f ≠ p := fun z => by
        subst z
        exact hc ((cand_Cd hW j1 j2 f).mpr hf)
      omega
