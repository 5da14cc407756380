/-! A connection begins and ends in the class. -/
theorem S_oreset {e : Nat} {w : Int32} {S : St} : sat (f_Outbox_reset e w S) (fun S' => (S' 23 e 0 = 1 ∧ S' 24 e 0 = 1 ∧ S' 25 e 0 = w ∧ ∀ s, s < 3 → S' 22 e s = 0) ∧ ∀ x i, (x < 22 ∨ 25 < x ∨ i ≠ e) → S' x i = S x i) := by
  unfold f_Outbox_reset f_Outbox_reset_17
  refine sat_upP (fun k x => x.1 = I k ∧ (x.2 23 e 0 = 1 ∧ x.2 24 e 0 = 1 ∧ x.2 25 e 0 = w ∧ ∀ s, s < k → x.2 22 e s = 0) ∧ ∀ y i, (y < 22 ∨ 25 < y ∨ i ≠ e) → x.2 y i = S y i) 3 (fun k x hk hx => ?_) (fun x hx => ?_) ⟨rfl, ⟨?_, ?_, ?_, fun s hs => absurd hs (by omega)⟩, fun y i hy => ?_⟩ (by decide)
  · obtain ⟨c, S1⟩ := x
    obtain ⟨rfl, ⟨q1, q2, q3, q4⟩, q5⟩ := hx
    unfold f_Outbox_reset_17_b
    simp (disch := omega) only [I_lit, I_lt, inbT, I_ix, if_true, I_add]
    rw [if_pos hk]
    refine .some ⟨rfl, ⟨?_, ?_, ?_, fun s hs => ?_⟩, fun y i hy => ?_⟩
    · dsimp only; rw [up3_code (by decide)]; exact q1
    · dsimp only; rw [up3_code (by decide)]; exact q2
    · dsimp only; rw [up3_code (by decide)]; exact q3
    · dsimp only
      rw [up3_at]
      by_cases hz : s = k
      · rw [if_pos hz]
      · rw [if_neg hz]; exact q4 s (by omega)
    · dsimp only
      rw [up3_ob (c := 22) (by omega)]
      exact q5 y i hy
  · obtain ⟨c, S1⟩ := x
    obtain ⟨rfl, h1, h2⟩ := hx
    unfold f_Outbox_reset_17_b
    simp (disch := omega) only [I_lit, I_lt]
    rw [if_neg (by omega)]
    exact .exW (.some ⟨h1, h2⟩)
  · dsimp only; rw [up3_code (by decide), up3_code (by decide), up3_at, if_pos rfl]
  · dsimp only; rw [up3_code (by decide), up3_at, if_pos rfl]
  · dsimp only; rw [up3_at, if_pos rfl]
  · dsimp only
    rw [up3_ob (c := 25) (by omega), up3_ob (c := 24) (by omega), up3_ob (c := 23) (by omega)]
def icd (e x i : Nat) : Prop := (i = e ∧ 18 ≤ x ∧ x ≤ 21) ∨ (x = 54 ∧ 32 * e + 84 ≤ i ∧ i < 32 * e + 116)
theorem S_ireset {e : Nat} {S : St} : sat (f_Inbox_reset e S) (fun S' => (S' 21 e 0 = 0 ∧ S' 20 e 0 = 0 ∧ (∀ k, k < 32 → S' 54 (32 * e + k + 84) 0 = 0 ∧ S' 18 e k = 0) ∧ ∀ s, s < 3 → S' 19 e s = 0) ∧ ∀ x i, ¬ icd e x i → S' x i = S x i) := by
  have k43 : ∀ S0 : St, (S0 21 e 0 = 0 ∧ S0 20 e 0 = 0 ∧ ∀ k, k < 32 → S0 54 (32 * e + k + 84) 0 = 0 ∧ S0 18 e k = 0) → (∀ x i, ¬ icd e x i → S0 x i = S x i) → sat (f_Inbox_reset_43 e (I 0, S0)) (fun S' => (S' 21 e 0 = 0 ∧ S' 20 e 0 = 0 ∧ (∀ k, k < 32 → S' 54 (32 * e + k + 84) 0 = 0 ∧ S' 18 e k = 0) ∧ ∀ s, s < 3 → S' 19 e s = 0) ∧ ∀ x i, ¬ icd e x i → S' x i = S x i) := by
    intro S0 g1 g2
    unfold f_Inbox_reset_43
    refine sat_upP (fun k x => x.1 = I k ∧ (x.2 21 e 0 = 0 ∧ x.2 20 e 0 = 0 ∧ (∀ k, k < 32 → x.2 54 (32 * e + k + 84) 0 = 0 ∧ x.2 18 e k = 0) ∧ ∀ s, s < k → x.2 19 e s = 0) ∧ ∀ y i, ¬ icd e y i → x.2 y i = S y i) 3 (fun k x hk hx => ?_) (fun x hx => ?_) ⟨rfl, ⟨g1.1, g1.2.1, g1.2.2, fun s hs => absurd hs (by omega)⟩, g2⟩ (by decide)
    · obtain ⟨c, S1⟩ := x
      obtain ⟨rfl, ⟨q1, q2, q3, q4⟩, q5⟩ := hx
      unfold f_Inbox_reset_43_b
      simp (disch := omega) only [I_lit, I_lt, inbT, I_ix, if_true, I_add]
      rw [if_pos hk]
      refine .some ⟨rfl, ⟨?_, ?_, fun j hj => ?_, fun s hs => ?_⟩, fun y i hy => ?_⟩
      · dsimp only; rw [up3_code (by decide)]; exact q1
      · dsimp only; rw [up3_code (by decide)]; exact q2
      · dsimp only; rw [up3_code (by decide), up3_code (by decide)]; exact q3 j hj
      · dsimp only
        rw [up3_at]
        by_cases hz : s = k
        · rw [if_pos hz]
        · rw [if_neg hz]; exact q4 s (by omega)
      · dsimp only
        rw [up3_ob (c := 19) (by unfold icd at hy; omega)]
        exact q5 y i hy
    · obtain ⟨c, S1⟩ := x
      obtain ⟨rfl, h1, h2⟩ := hx
      unfold f_Inbox_reset_43_b
      simp (disch := omega) only [I_lit, I_lt]
      rw [if_neg (by omega)]
      exact .exW (.some ⟨h1, h2⟩)
  unfold f_Inbox_reset f_Inbox_reset_12
  refine sat_upP (fun k x => x.1 = I k ∧ (x.2 21 e 0 = 0 ∧ x.2 20 e 0 = 0 ∧ ∀ j, j < k → x.2 54 (32 * e + j + 84) 0 = 0 ∧ x.2 18 e j = 0) ∧ ∀ y i, ¬ icd e y i → x.2 y i = S y i) 32 (fun k x hk hx => ?_) (fun x hx => ?_) ⟨rfl, ⟨?_, ?_, fun s hs => absurd hs (by omega)⟩, fun y i hy => ?_⟩ (by decide)
  · obtain ⟨c, S1⟩ := x
    obtain ⟨rfl, ⟨q1, q2, q3⟩, q5⟩ := hx
    unfold f_Inbox_reset_12_b
    simp (disch := omega) only [I_lit, I_lt, inbT, I_ix, if_true, I_add]
    rw [if_pos hk]
    refine .some ⟨rfl, ⟨?_, ?_, fun j hj => ?_⟩, fun y i hy => ?_⟩
    · dsimp only; rw [up3_code (by decide), up3_code (by decide)]; exact q1
    · dsimp only; rw [up3_code (by decide), up3_code (by decide)]; exact q2
    · dsimp only
      rw [up3_code (show 54 ≠ cInbox_unready by decide), up3_at]
      by_cases hz : j = k
      · subst hz
        rw [if_pos rfl, up3_at, if_pos rfl]
        exact ⟨rfl, rfl⟩
      · rw [up3_oj (c := 54) (by omega), if_neg hz, up3_code (by decide)]
        exact q3 j (by omega)
    · dsimp only
      rw [up3_ob (c := 18) (by unfold icd at hy; omega), up3_ob (c := 54) (by unfold icd at hy; omega)]
      exact q5 y i hy
  · obtain ⟨c, S1⟩ := x
    obtain ⟨rfl, h1, h2⟩ := hx
    unfold f_Inbox_reset_12_b
    simp (disch := omega) only [I_lit, I_lt]
    rw [if_neg (by omega)]
    exact .exW (k43 S1 h1 h2)
  · dsimp only; rw [up3_code (by decide), up3_at, if_pos rfl]
  · dsimp only; rw [up3_at, if_pos rfl]
  · dsimp only
    rw [up3_ob (c := 20) (by unfold icd at hy; omega), up3_ob (c := 21) (by unfold icd at hy; omega)]
/-- an end's part after all has been set back -/
theorem RSe_empty {A : MA} {e : Nat} {S S' : St} (h : RSe A e S) (he : e < 2) {B : MA} (hB : aN B e = aN A e ∧ aR B e = aR A e ∧ aP B = aP A ∧ gN B = gN A ∧ gI B = gI A) (hH : ∀ k n, 544 ≤ n → aH B e k n = false) (c : ∀ x i, ¬ icd e x i → ¬ ucd x → (x < 22 ∨ 24 < x ∨ i ≠ e) → (x ≠ 7 ∧ x ≠ 8 ∧ x ≠ 9 ∧ x ≠ 13 ∨ i ≠ e) → S' x i = S x i) (s7 : S' 7 e 0 = aI B e 0) (s8 : S' 8 e 0 = aI B e 1) (s9 : S' 9 e 0 = aI B e 2) (s13 : S' 13 e 0 = aI B e 3) (o1 : S' 23 e 0 = 1 ∧ S' 24 e 0 = 1 ∧ ∀ s, s < 3 → S' 22 e s = 0) (i1 : S' 21 e 0 = 0 ∧ S' 20 e 0 = 0 ∧ (∀ k, k < 32 → S' 54 (32 * e + k + 84) 0 = 0 ∧ S' 18 e k = 0) ∧ ∀ s, s < 3 → S' 19 e s = 0) (u1 : aI B e 0 = 3 → uS (m_empty B e) e S') : RSe (m_empty B e) e S' := by
  obtain ⟨b1, b2, b3, b4, b5⟩ := hB
  obtain ⟨⟨⟨⟨e1, e2, e3, e4⟩, ⟨e5, e6⟩, ⟨e7, e8, e9⟩, ⟨e10, e11⟩, e12⟩, h2⟩, ⟨h3, h4, h5⟩, ⟨h6, h7⟩, h8⟩ := h
  obtain ⟨i1, i2, i3, i4⟩ := i1
  have kI : ∀ i, aI (m_empty B e) e i = m_eI B e i := fun i => if_pos rfl
  have kN : ∀ i, aN (m_empty B e) e i = m_eN B e i := fun i => if_pos rfl
  have kH : ∀ k n, k < 2 → aH (m_empty B e) e k n = false := by
    intro k n hk
    by_cases hn : n < 544
    · exact if_pos ⟨rfl, hk, hn⟩
    · have : aH (m_empty B e) e k n = aH B e k n := if_neg (fun z => hn z.2.2)
      rw [this]
      exact hH k n (by omega)
  have n5 : aN (m_empty B e) e 5 = 0 := by rw [kN]; rfl
  have n3 : aN (m_empty B e) e 3 = 0 := by rw [kN]; rfl
  have n4 : aN (m_empty B e) e 4 = 0 := by rw [kN]; rfl
  refine ⟨⟨⟨⟨?_, ?_, ?_, ?_⟩, ⟨?_, ?_⟩, ⟨?_, ?_, ?_⟩, ⟨fun s hs => ?_, fun s hs => ?_⟩, ?_⟩, fun k => u1 ?_⟩, ⟨fun n a b => ?_, ⟨fun n a b d => ?_, fun k hk z => absurd (i3 k hk).2 z, fun n a b => ?_, fun k hk => ⟨0, Nat.zero_le _, (i3 k hk).1⟩⟩, ?_⟩, ⟨?_, ?_⟩, ?_⟩
  · rw [kI]; exact s7
  · rw [kI]; exact s8
  · rw [kI]; exact s9
  · rw [kI]; exact s13
  · rw [c 15 e (by unfold icd; omega) (by unfold ucd; omega) (by omega) (by omega), kN, e5]
    exact congrArg I (show aN A e 0 = aN B e 0 by rw [b1])
  · rw [c 16 e (by unfold icd; omega) (by unfold ucd; omega) (by omega) (by omega), kN, e6]
    exact congrArg I (show aN A e 1 = aN B e 1 by rw [b1])
  · rw [n3]; exact o1.1
  · rw [n4]; exact o1.2.1
  · rw [n5]; exact i1
  · rw [o1.2.2 s hs, kN]
    have : s = 0 ∨ s = 1 ∨ s = 2 := by omega
    rcases this with rfl | rfl | rfl <;> rfl
  · rw [i4 s hs, kN]
    have : s = 0 ∨ s = 1 ∨ s = 2 := by omega
    rcases this with rfl | rfl | rfl <;> rfl
  · rw [i2, kI]
    show 0 = sumR (aR B e) - sumR (aR B e)
    rw [Int32.sub_self]
  · rw [kI] at k; exact k
  · rw [n3] at a
    rw [n4] at b
    omega
  · rw [n5] at d
    rw [kH 1 n (by decide), (i3 (n % 32) (by omega)).2]
    exact ⟨rfl, fun z => by cases z⟩
  · rw [n5] at a b
    rw [kH 0 n (by decide), (i3 (n % 32) (by omega)).1]
    refine ⟨fun z => ?_, fun z => by cases z⟩
    have := (I_eq (a := 0) (b := n) (by decide) (by omega)).mp z
    omega
  · show rS (aR B e) e S'
    rw [b2]
    exact rS_c h5 (fun x a b => c x e (by unfold icd; omega) (by unfold ucd; omega) (by omega) (by omega))
  · show rwS (aP B (2 * e)) (2 * e) S'
    rw [b3]
    exact rwS_cg h6 (c 47 _ (by unfold icd; omega) (by unfold ucd; omega) (by omega) (by omega)) (c 48 _ (by unfold icd; omega) (by unfold ucd; omega) (by omega) (by omega)) (fun x hx i p q => c x i (by unfold pcd at hx; unfold icd; omega) (by unfold pcd at hx; unfold ucd; omega) (by unfold pcd at hx; omega) (by unfold pcd at hx; omega))
  · show rwS (aP B (2 * e + 1)) (2 * e + 1) S'
    rw [b3]
    exact rwS_cg h7 (c 47 _ (by unfold icd; omega) (by unfold ucd; omega) (by omega) (by omega)) (c 48 _ (by unfold icd; omega) (by unfold ucd; omega) (by omega) (by omega)) (fun x hx i p q => c x i (by unfold pcd at hx; unfold icd; omega) (by unfold pcd at hx; unfold ucd; omega) (by unfold pcd at hx; omega) (by unfold pcd at hx; omega))
  · refine kS_c h8 ?_ ?_ ?_ (c 11 e (by unfold icd; omega) (by unfold ucd; omega) (by omega) (by omega)) (c 12 e (by unfold icd; omega) (by unfold ucd; omega) (by omega) (by omega)) (c 17 e (by unfold icd; omega) (by unfold ucd; omega) (by omega) (by omega)) (fun x a b => c x 36 (by unfold icd; omega) (by unfold ucd; omega) (by omega) (by omega))
    · show gN B 1 = gN A 1; rw [b4]
    · show gN B 2 = gN A 2; rw [b4]
    · exact b5
