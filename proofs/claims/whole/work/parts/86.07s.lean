theorem ow_ic {e x i : Nat} (he : e < 2) (h : icd e x i) : ownr x i = e := by
  unfold icd at h
  rcases h with ⟨rfl, h1, h2⟩ | ⟨rfl, h1, h2⟩
  · exact ow_e ⟨by omega, by omega⟩
  · unfold ownr
    rw [if_neg (by omega), if_neg (by omega), if_neg (by omega), if_neg (by omega), if_neg (by omega), if_neg (by omega), if_neg (by omega), if_pos (by omega), if_neg (by omega), if_neg (by omega)]
    omega
theorem ow_p {x e p : Nat} (hx : 33 ≤ x ∧ x ≤ 41) (hp : p < 2) : ownr x (2 * e + p) = e := by
  unfold ownr
  rw [if_neg (by omega), if_neg (by omega), if_neg (by omega), if_pos hx]
  omega
theorem S_close {A : MA} {e : Nat} {S : St} (h : RSe A e S) (he : e < 2) (hH : ∀ k n, 544 ≤ n → aH A e k n = false) {w : Int32} : sat (f_End_close e w S) (fun S' => RSe (m_close A e w) e S' ∧ frS e S S') := by
  unfold f_End_close
  refine .bd S_oreset (fun S1 h1 => .bd S_ireset (fun S2 h2 => .some ?_))
  obtain ⟨⟨a1, a2, a3, a4⟩, a5⟩ := h1
  obtain ⟨b1, b2⟩ := h2
  have c0 : ∀ x i, ¬ icd e x i → (x < 22 ∨ 25 < x ∨ i ≠ e) → S2 x i = up3 (up3 (up3 (up3 S 7 e 0 0) 13 e 0 w) 8 e 0 0) 9 e 0 0 x i := fun x i p q => (b2 x i p).trans (a5 x i q)
  have cc : ∀ x i, ¬ icd e x i → (x < 22 ∨ 25 < x ∨ i ≠ e) → (x ≠ 7 ∧ x ≠ 8 ∧ x ≠ 9 ∧ x ≠ 13 ∨ i ≠ e) → S2 x i = S x i := by
    intro x i p q r
    rw [c0 x i p q, up3_ob (by omega), up3_ob (by omega), up3_ob (by omega), up3_ob (by omega)]
  refine ⟨?_, fun x i hx => ?_⟩
  · unfold m_close
    refine RSe_empty h he ⟨rfl, rfl, rfl, rfl, rfl⟩ hH (fun x i p q r s => ?_) ?_ ?_ ?_ ?_ ⟨?_, ?_, fun s hs => ?_⟩ b1 (fun z => ?_)
    · refine cc x i p ?_ s
      unfold ucd at q
      omega
    · rw [c0 7 e (by unfold icd; omega) (by omega), up3_code (by decide), up3_code (by decide), up3_code (by decide), up3_at, if_pos rfl]
      show 0 = up2 (up2 (up2 (up2 (aI A) e 0 0) e 1 0) e 2 0) e 3 w e 0
      rw [up2_ne2 (by decide), up2_ne2 (by decide), up2_ne2 (by decide), up2_eq]
    · rw [c0 8 e (by unfold icd; omega) (by omega), up3_code (by decide), up3_at, if_pos rfl]
      show 0 = up2 (up2 (up2 (up2 (aI A) e 0 0) e 1 0) e 2 0) e 3 w e 1
      rw [up2_ne2 (by decide), up2_ne2 (by decide), up2_eq]
    · rw [c0 9 e (by unfold icd; omega) (by omega), up3_at, if_pos rfl]
      show 0 = up2 (up2 (up2 (up2 (aI A) e 0 0) e 1 0) e 2 0) e 3 w e 2
      rw [up2_ne2 (by decide), up2_eq]
    · rw [c0 13 e (by unfold icd; omega) (by omega), up3_code (by decide), up3_code (by decide), up3_at, if_pos rfl]
      show w = up2 (up2 (up2 (up2 (aI A) e 0 0) e 1 0) e 2 0) e 3 w e 3
      rw [up2_eq]
    · rw [b2 23 e (by unfold icd; omega)]; exact a1
    · rw [b2 24 e (by unfold icd; omega)]; exact a2
    · rw [b2 22 e (by unfold icd; omega)]; exact a4 s hs
    · have : aI (sI (sI (sI (sI A e 0 0) e 1 0) e 2 0) e 3 w) e 0 = 0 := by
        show up2 (up2 (up2 (up2 (aI A) e 0 0) e 1 0) e 2 0) e 3 w e 0 = 0
        rw [up2_ne2 (by decide), up2_ne2 (by decide), up2_ne2 (by decide), up2_eq]
      rw [this] at z
      exact absurd z (by decide)
  · refine cc x i (fun z => hx (ow_ic he z)) ?_ ?_
    · by_cases z : 22 ≤ x ∧ x ≤ 25 ∧ i = e
      · obtain ⟨z1, z2, rfl⟩ := z
        exact absurd (ow_e ⟨by omega, by omega⟩) hx
      · omega
    · by_cases z : (x = 7 ∨ x = 8 ∨ x = 9 ∨ x = 13) ∧ i = e
      · obtain ⟨z1, rfl⟩ := z
        exact absurd (ow_e ⟨by omega, by omega⟩) hx
      · omega
theorem S_preset {o : Nat} {S : St} : (f_Path_reset o S 33 o 0 = 2 ∧ f_Path_reset o S 34 o 0 = 3 ∧ f_Path_reset o S 35 o 0 = 0 ∧ f_Path_reset o S 36 o 0 = 1 ∧ f_Path_reset o S 37 o 0 = 0 ∧ f_Path_reset o S 39 o 0 = 0) ∧ ∀ x i, (x < 33 ∨ 41 < x ∨ i ≠ o) → f_Path_reset o S x i = S x i := by
  unfold f_Path_reset
  refine ⟨⟨?_, ?_, ?_, ?_, ?_, ?_⟩, fun x i hx => ?_⟩
  · rw [up3_code (by decide), up3_code (by decide), up3_code (by decide), up3_code (by decide), up3_code (by decide), up3_code (by decide), up3_code (by decide), up3_code (by decide), up3_at, if_pos rfl]
  · rw [up3_code (by decide), up3_code (by decide), up3_code (by decide), up3_code (by decide), up3_code (by decide), up3_code (by decide), up3_code (by decide), up3_at, if_pos rfl]
  · rw [up3_code (by decide), up3_code (by decide), up3_code (by decide), up3_code (by decide), up3_code (by decide), up3_code (by decide), up3_at, if_pos rfl]
  · rw [up3_code (by decide), up3_code (by decide), up3_code (by decide), up3_code (by decide), up3_code (by decide), up3_at, if_pos rfl]
  · rw [up3_code (by decide), up3_code (by decide), up3_code (by decide), up3_code (by decide), up3_at, if_pos rfl]
  · rw [up3_code (by decide), up3_code (by decide), up3_at, if_pos rfl]
  · rw [up3_ob (c := 41) (by omega), up3_ob (c := 40) (by omega), up3_ob (c := 39) (by omega), up3_ob (c := 38) (by omega), up3_ob (c := 37) (by omega), up3_ob (c := 36) (by omega), up3_ob (c := 35) (by omega), up3_ob (c := 34) (by omega), up3_ob (c := 33) (by omega)]
def pz (S : St) (o : Nat) : Prop := S 33 o 0 = 2 ∧ S 34 o 0 = 3 ∧ S 35 o 0 = 0 ∧ S 36 o 0 = 1 ∧ S 37 o 0 = 0 ∧ S 39 o 0 = 0
theorem S_comeUp {A : MA} {e : Nat} {S : St} (h : RSe A e S) (he : e < 2) (hH : ∀ k n, 544 ≤ n → aH A e k n = false) {o t : Int32} (ho : aI A e 1 = o) (ht : aI A e 2 = t) : sat (f_End_comeUp e S) (fun S' => RSe (m_comeUp A e o t) e S' ∧ frS e S S') := by
  subst ho ht
  have hroom : S cEnd_room e 0 = I (gN A 1) := h.2.2.2.1
  unfold f_End_comeUp
  rw [hroom]
  refine .bd S_oreset (fun S1 h1 => .bd S_ireset (fun S2 h2 => ?_))
  obtain ⟨⟨a1, a2, a3, a4⟩, a5⟩ := h1
  obtain ⟨b1, b2⟩ := h2
  unfold f_End_comeUp_25
  refine sat_upP (fun k x => x.1 = I k ∧ (∀ p, p < k → pz x.2 (2 * e + p)) ∧ ∀ y i, (y < 33 ∨ 41 < y ∨ i < 2 * e ∨ 2 * e + 2 ≤ i) → x.2 y i = S2 y i) 2 (fun k x hk hx => ?_) (fun x hx => ?_) ⟨rfl, fun p hp => absurd hp (by omega), fun _ _ _ => rfl⟩ (by decide)
  · obtain ⟨c, S3⟩ := x
    obtain ⟨rfl, q1, q2⟩ := hx
    unfold f_End_comeUp_25_b
    simp (disch := omega) only [I_lit, I_lt, inbT, I_ix, if_true, I_add]
    rw [if_pos hk]
    obtain ⟨z1, z2⟩ := S_preset (o := 2 * e + k) (S := S3)
    refine .some ⟨rfl, fun p hp => ?_, fun y i hy => ?_⟩
    · dsimp only
      by_cases hz : p = k
      · subst hz; exact z1
      · have := q1 p (by omega)
        unfold pz at *
        dsimp only at this
        rw [z2 33 _ (by omega), z2 34 _ (by omega), z2 35 _ (by omega), z2 36 _ (by omega), z2 37 _ (by omega), z2 39 _ (by omega)]
        exact this
    · dsimp only
      rw [z2 y i (by omega)]
      exact q2 y i hy
  · obtain ⟨c, S3⟩ := x
    obtain ⟨rfl, q1, q2⟩ := hx
    replace q1 : ∀ p, p < 2 → pz S3 (2 * e + p) := q1
    replace q2 : ∀ y i, (y < 33 ∨ 41 < y ∨ i < 2 * e ∨ 2 * e + 2 ≤ i) → S3 y i = S2 y i := q2
    unfold f_End_comeUp_25_b
    simp (disch := omega) only [I_lit, I_lt]
    rw [if_neg (by omega)]
    refine .exW (.some ?_)
    have cS : ∀ x i, ¬ icd e x i → (x < 22 ∨ 25 < x ∨ i ≠ e) → (x < 33 ∨ 41 < x ∨ i < 2 * e ∨ 2 * e + 2 ≤ i) → (x ≠ 7 ∧ x ≠ 10 ∧ x ≠ 14 ∨ i ≠ e) → up3 (up3 S3 10 e 0 (I 0)) 14 e 0 (I 0) x i = S x i := by
      intro x i p q r s
      rw [up3_ob (by omega), up3_ob (by omega), q2 x i r, b2 x i p, a5 x i q, up3_ob (c := 7) (by omega)]
    have cr : ∀ x i, x ≠ 10 → x ≠ 14 → (x < 33 ∨ 41 < x ∨ i < 2 * e ∨ 2 * e + 2 ≤ i) → up3 (up3 S3 10 e 0 (I 0)) 14 e 0 (I 0) x i = S2 x i := by
      intro x i p q r
      rw [up3_code q, up3_code p, q2 x i r]
    refine ⟨?_, fun x i hx => ?_⟩
    · unfold m_comeUp
      have k0 : aI (sI (sI (sI A e 0 3) e 1 (aI A e 1)) e 2 (aI A e 2)) e 0 = 3 := by
        show up2 (up2 (up2 (aI A) e 0 3) e 1 (aI A e 1)) e 2 (aI A e 2) e 0 = 3
        rw [up2_ne2 (by decide), up2_ne2 (by decide), up2_eq]
      have kn : ∀ i, i ≠ 0 → aI (sI (sI (sI A e 0 3) e 1 (aI A e 1)) e 2 (aI A e 2)) e i = aI A e i := by
        intro i hi
        show up2 (up2 (up2 (aI A) e 0 3) e 1 (aI A e 1)) e 2 (aI A e 2) e i = _
        unfold up2
        by_cases z2 : i = 2
        · rw [if_pos ⟨rfl, z2⟩, z2]
        · rw [if_neg (fun z => z2 z.2)]
          by_cases z1 : i = 1
          · rw [if_pos ⟨rfl, z1⟩, z1]
          · rw [if_neg (fun z => z1 z.2), if_neg (fun z => hi z.2)]
      obtain ⟨⟨⟨⟨e1, e2, e3, e4⟩, _⟩, _⟩, _⟩ := id h
      refine RSe_empty h he ⟨rfl, rfl, rfl, rfl, rfl⟩ hH (fun x i p q r s => cS x i p ?_ ?_ ?_) ?_ ?_ ?_ ?_ ⟨?_, ?_, fun s hs => ?_⟩ ⟨?_, ?_, fun k hk => ?_, fun s hs => ?_⟩ (fun _ => ⟨⟨?_, ?_, ?_⟩, fun p hp => ?_⟩)
      · unfold ucd at q; omega
      · unfold ucd at q; omega
      · unfold ucd at q; omega
      · rw [cr 7 e (by decide) (by decide) (by omega), b2 7 e (by unfold icd; omega), a5 7 e (by omega), up3_at, if_pos rfl, k0]
      · rw [kn 1 (by decide), cS 8 e (by unfold icd; omega) (by omega) (by omega) (by omega)]; exact e2
      · rw [kn 2 (by decide), cS 9 e (by unfold icd; omega) (by omega) (by omega) (by omega)]; exact e3
      · rw [kn 3 (by decide), cS 13 e (by unfold icd; omega) (by omega) (by omega) (by omega)]; exact e4
      · rw [cr 23 e (by decide) (by decide) (by omega), b2 23 e (by unfold icd; omega)]; exact a1
      · rw [cr 24 e (by decide) (by decide) (by omega), b2 24 e (by unfold icd; omega)]; exact a2
      · rw [cr 22 e (by decide) (by decide) (by omega), b2 22 e (by unfold icd; omega)]; exact a4 s hs
      · rw [cr 21 e (by decide) (by decide) (by omega)]; exact b1.1
      · rw [cr 20 e (by decide) (by decide) (by omega)]; exact b1.2.1
      · rw [cr 54 _ (by decide) (by decide) (by omega), cr 18 e (by decide) (by decide) (by omega)]; exact b1.2.2.1 k hk
      · rw [cr 19 e (by decide) (by decide) (by omega)]; exact b1.2.2.2 s hs
      · rw [up3_code (by decide), up3_at, if_pos rfl]
        exact congrArg I (show 0 = aN (m_empty (sI (sI (sI A e 0 3) e 1 (aI A e 1)) e 2 (aI A e 2)) e) e 2 from (if_pos rfl).symm)
      · rw [up3_at, if_pos rfl]
        exact (show aI (m_empty (sI (sI (sI A e 0 3) e 1 (aI A e 1)) e 2 (aI A e 2)) e) e 4 = I 0 from if_pos rfl).symm
      · rw [cr 25 e (by decide) (by decide) (by omega), b2 25 e (by unfold icd; omega), a3]
        exact (show aI (m_empty (sI (sI (sI A e 0 3) e 1 (aI A e 1)) e 2 (aI A e 2)) e) e 5 = I (gN A 1) from if_pos rfl).symm
      · obtain ⟨z1, z2, z3, z4, z5, z6⟩ := q1 p hp
        have kI : ∀ i, aI (m_empty (sI (sI (sI A e 0 3) e 1 (aI A e 1)) e 2 (aI A e 2)) e) e i = m_eI (sI (sI (sI A e 0 3) e 1 (aI A e 1)) e 2 (aI A e 2)) e i := fun i => if_pos rfl
        have kN : ∀ i, aN (m_empty (sI (sI (sI A e 0 3) e 1 (aI A e 1)) e 2 (aI A e 2)) e) e i = m_eN (sI (sI (sI A e 0 3) e 1 (aI A e 1)) e 2 (aI A e 2)) e i := fun i => if_pos rfl
        have kB : ∀ i, aB (m_empty (sI (sI (sI A e 0 3) e 1 (aI A e 1)) e 2 (aI A e 2)) e) e i = m_eB (sI (sI (sI A e 0 3) e 1 (aI A e 1)) e 2 (aI A e 2)) e i := fun i => if_pos rfl
        unfold pS
        rw [kN, kN, kN, kI, kI, kB, kB, kB]
        have cp : ∀ x, x ≠ 10 → x ≠ 14 → up3 (up3 S3 10 e 0 (I 0)) 14 e 0 (I 0) x = S3 x := fun x p q => by rw [up3_code q, up3_code p]
        rw [cp 33 (by decide) (by decide), cp 34 (by decide) (by decide), cp 35 (by decide) (by decide), cp 36 (by decide) (by decide), cp 37 (by decide) (by decide), cp 39 (by decide) (by decide)]
        have hp2 : p = 0 ∨ p = 1 := by omega
        rcases hp2 with rfl | rfl
        · exact ⟨⟨z1, z2, z3⟩, z4, ⟨z5, fun z => by cases z⟩, z6, fun z => by cases z⟩
        · exact ⟨⟨z1, z2, z3⟩, z4, ⟨z5, fun z => by cases z⟩, z6, fun z => by cases z⟩
    · refine cS x i (fun z => hx (ow_ic he z)) ?_ ?_ ?_
      · by_cases z : 22 ≤ x ∧ x ≤ 25 ∧ i = e
        · obtain ⟨z1, z2, rfl⟩ := z
          exact absurd (ow_e ⟨by omega, by omega⟩) hx
        · omega
      · by_cases z : (33 ≤ x ∧ x ≤ 41) ∧ (2 * e ≤ i ∧ i < 2 * e + 2)
        · have : i = 2 * e + (i - 2 * e) := by omega
          rw [this] at hx
          exact absurd (ow_p z.1 (by omega)) hx
        · omega
      · by_cases z : (x = 7 ∨ x = 10 ∨ x = 14) ∧ i = e
        · obtain ⟨z1, rfl⟩ := z
          exact absurd (ow_e ⟨by omega, by omega⟩) hx
        · omega
