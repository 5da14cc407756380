/-! An end's part piece by piece. -/
def ecd (x : Nat) : Prop := (7 ≤ x ∧ x ≤ 9) ∨ x = 13 ∨ x = 15 ∨ x = 16 ∨ (19 ≤ x ∧ x ≤ 24)
def eqE (A A' : MA) (e : Nat) : Prop := ((aI A' e 0 = aI A e 0 ∧ aI A' e 1 = aI A e 1 ∧ aI A' e 2 = aI A e 2 ∧ aI A' e 3 = aI A e 3) ∧ aI A' e 10 = aI A e 10) ∧ ((aN A' e 0 = aN A e 0 ∧ aN A' e 1 = aN A e 1) ∧ (aN A' e 3 = aN A e 3 ∧ aN A' e 4 = aN A e 4 ∧ aN A' e 5 = aN A e 5) ∧ ∀ s, s < 3 → aN A' e (13 + s) = aN A e (13 + s) ∧ aN A' e (16 + s) = aN A e (16 + s)) ∧ aR A' e = aR A e
theorem eqE.rfl {A : MA} {e : Nat} : eqE A A e := ⟨⟨⟨Eq.refl _, Eq.refl _, Eq.refl _, Eq.refl _⟩, Eq.refl _⟩, ⟨⟨Eq.refl _, Eq.refl _⟩, ⟨Eq.refl _, Eq.refl _, Eq.refl _⟩, fun _ _ => ⟨Eq.refl _, Eq.refl _⟩⟩, Eq.refl _⟩
theorem eqE_f {A A' : MA} {e : Nat} (h1 : aI A' e = aI A e) (h2 : aN A' e = aN A e) (h3 : aR A' e = aR A e) : eqE A A' e := by
  unfold eqE
  rw [h1, h2, h3]
  exact eqE.rfl
theorem eS_c {A A' : MA} {e : Nat} {S S' : St} (h : eS A e S) (hA : eqE A A' e) (c : ∀ x, ecd x → S' x e = S x e) : eS A' e S' := by
  obtain ⟨⟨⟨a1, a2, a3, a4⟩, a5⟩, ⟨⟨a6, a7⟩, ⟨a8, a9, a10⟩, a11⟩, a12⟩ := hA
  obtain ⟨⟨e1, e2, e3, e4⟩, ⟨e5, e6⟩, ⟨e7, e8, e9⟩, ⟨e10, e11⟩, e12⟩ := h
  unfold eS
  rw [a1, a2, a3, a4, a5, a6, a7, a8, a9, a10, a12, c 7 (by unfold ecd; omega), c 8 (by unfold ecd; omega), c 9 (by unfold ecd; omega), c 13 (by unfold ecd; omega), c 15 (by unfold ecd; omega), c 16 (by unfold ecd; omega), c 23 (by unfold ecd; omega), c 24 (by unfold ecd; omega), c 21 (by unfold ecd; omega), c 22 (by unfold ecd; omega), c 19 (by unfold ecd; omega), c 20 (by unfold ecd; omega)]
  exact ⟨⟨e1, e2, e3, e4⟩, ⟨e5, e6⟩, ⟨e7, e8, e9⟩, ⟨fun s hs => by rw [(a11 s hs).1]; exact e10 s hs, fun s hs => by rw [(a11 s hs).2]; exact e11 s hs⟩, e12⟩
theorem eqP_f {A A' : MA} {e p : Nat} (h1 : aI A' e = aI A e) (h2 : aN A' e = aN A e) (h3 : aB A' e = aB A e) : eqP A A' e p := by
  unfold eqP
  rw [h1, h2, h3]
  exact ⟨⟨Eq.refl _, Eq.refl _, Eq.refl _⟩, ⟨Eq.refl _, Eq.refl _⟩, Eq.refl _, Eq.refl _, Eq.refl _⟩
theorem uS_c {A A' : MA} {e : Nat} {S S' : St} (h : uS A e S) (h2 : aN A' e 2 = aN A e 2) (h4 : aI A' e 4 = aI A e 4) (h5 : aI A' e 5 = aI A e 5) (hp : ∀ p, p < 2 → eqP A A' e p) (c1 : S' 10 e = S 10 e) (c2 : S' 14 e = S 14 e) (c3 : S' 25 e = S 25 e) (c : ∀ x p, 33 ≤ x → x ≤ 40 → p < 2 → S' x (2 * e + p) = S x (2 * e + p)) : uS A' e S' := by
  obtain ⟨⟨u1, u2, u3⟩, u4⟩ := h
  exact ⟨⟨by rw [c1, h2]; exact u1, by rw [c2, h4]; exact u2, by rw [c3, h5]; exact u3⟩, fun p hq => pS_cg (u4 p hq) (hp p hq) (fun x a b => c x p a b hq)⟩
theorem oS_c {A A' : MA} {e : Nat} {S S' : St} (h : oS A e S) (h3 : aN A' e 3 = aN A e 3) (h4 : aN A' e 4 = aN A e 4) (hO : aO A' e = aO A e) (c : ∀ x k, 49 ≤ x → x ≤ 51 → k < 24 → S' x (24 * e + k) = S x (24 * e + k)) (c2 : ∀ x k, 54 ≤ x → x ≤ 60 → k < 24 → S' x (24 * e + k + 36) = S x (24 * e + k + 36)) : oS A' e S' := by
  intro n a b
  rw [h3] at a
  rw [h4] at b
  rw [hO]
  exact owS_cg (h n a b) (fun x p q => c x _ p q (by omega)) (fun x p q => c2 x _ p q (by omega))
theorem hS_c {A A' : MA} {e : Nat} {S S' : St} (h : hS A e S) (h5 : aN A' e 5 = aN A e 5) (hH : aH A' e = aH A e) (hW : aW A' e = aW A e) (c1 : S' 18 e = S 18 e) (c : ∀ x k, 54 ≤ x → x ≤ 60 → k < 32 → S' x (32 * e + k + 84) = S x (32 * e + k + 84)) : hS A' e S' := by
  obtain ⟨q1, q2, q3, q4⟩ := h
  unfold hS
  rw [h5, hH, hW, c1]
  refine ⟨fun n p q r => ⟨(q1 n p q r).1, fun z => wrS_cg ((q1 n p q r).2 z) (fun x y t => c x _ y t (by omega))⟩, q2, fun n p q => ?_, fun k hk => ?_⟩
  · rw [c 54 _ (by decide) (by decide) (by omega)]
    exact q3 n p q
  · rw [c 54 _ (by decide) (by decide) (by omega)]
    exact q4 k hk
theorem rS_c {L : List RM} {e : Nat} {S S' : St} (h : rS L e S) (c : ∀ x, 42 ≤ x → x ≤ 46 → S' x e = S x e) : rS L e S' := by
  unfold rS at *
  rw [c 45 (by decide) (by decide), c 46 (by decide) (by decide), c 42 (by decide) (by decide), c 43 (by decide) (by decide), c 44 (by decide) (by decide)]
  exact h
theorem kS_c {A A' : MA} {e : Nat} {S S' : St} (h : kS A e S) (h1 : gN A' 1 = gN A 1) (h2 : gN A' 2 = gN A 2) (h3 : gI A' = gI A) (c1 : S' 11 e = S 11 e) (c2 : S' 12 e = S 12 e) (c3 : S' 17 e = S 17 e) (c : ∀ x, 3 ≤ x → x ≤ 6 → S' x 36 = S x 36) : kS A' e S' := by
  obtain ⟨k1, k2, k3, k4⟩ := h
  refine ⟨by rw [h1, c1]; exact k1, by rw [h2, c2]; exact k2, by rw [h1, c3]; exact k3, fun z => ?_⟩
  rw [h3]
  exact ckS_cg (k4 z) c
/-- a row is written anew -/
theorem RSx_R {A : MA} {e p : Nat} {S S' : St} (h : RSe A e S) (he : e < 2) (hp : p < 2) {L : List Pkt} (c : ∀ x i, x ≠ 47 → x ≠ 48 → (¬ pcd x ∨ i < 9 * (2 * e + p) ∨ 9 * (2 * e + p) + 9 ≤ i) → S' x i = S x i) (c2 : ∀ x i, x = 47 ∨ x = 48 → i ≠ 2 * e + p → S' x i = S x i) (hL : rwS L (2 * e + p) S') : RSe (uP A (up1 (aP A) (2 * e + p) L)) e S' := by
  obtain ⟨⟨h1, h2⟩, ⟨h3, h4, h5⟩, ⟨h6, h7⟩, h8⟩ := h
  have row : ∀ q, q < 2 → rwS (aP A (2 * e + q)) (2 * e + q) S → rwS (up1 (aP A) (2 * e + p) L (2 * e + q)) (2 * e + q) S' := by
    intro q hq hz
    by_cases hqp : q = p
    · subst hqp
      rw [up1_eq]
      exact hL
    · rw [up1_ne (by omega)]
      exact rwS_cg hz (c2 47 _ (Or.inl rfl) (by omega)) (c2 48 _ (Or.inr rfl) (by omega)) (fun x hx i a b => c x i (by unfold pcd at hx; omega) (by unfold pcd at hx; omega) (by omega))
  refine ⟨⟨eS_c h1 eqE.rfl (fun x hx => c x e (by unfold ecd at hx; omega) (by unfold ecd at hx; omega) (by unfold ecd at hx; unfold pcd; omega)), fun k => uS_c (h2 k) rfl rfl rfl (fun p _ => eqP_f rfl rfl rfl) (c 10 e (by decide) (by decide) (by unfold pcd; omega)) (c 14 e (by decide) (by decide) (by unfold pcd; omega)) (c 25 e (by decide) (by decide) (by unfold pcd; omega)) (fun x q a b hq => c x _ (by omega) (by omega) (by unfold pcd; omega))⟩, ⟨oS_c h3 rfl rfl rfl (fun x k a b hk => c x _ (by omega) (by omega) (by unfold pcd; omega)) (fun x k a b hk => c x _ (by omega) (by omega) (by unfold pcd; omega)), hS_c h4 rfl rfl rfl (c 18 e (by decide) (by decide) (by unfold pcd; omega)) (fun x k a b hk => c x _ (by omega) (by omega) (by unfold pcd; omega)), rS_c h5 (fun x a b => c x e (by omega) (by omega) (by unfold pcd; omega))⟩, ⟨row 0 (by decide) h6, row 1 (by decide) h7⟩, kS_c h8 rfl rfl rfl (c 11 e (by decide) (by decide) (by unfold pcd; omega)) (c 12 e (by decide) (by decide) (by unfold pcd; omega)) (c 17 e (by decide) (by decide) (by unfold pcd; omega)) (fun x a b => c x 36 (by omega) (by omega) (by omega))⟩
theorem ow_pk {x i r : Nat} (hx : pcd x) (h1 : 9 * r ≤ i) (h2 : i < 9 * r + 9) (hr : r < 4) : ownr x i = r / 2 := by
  unfold pcd at hx
  unfold ownr
  rcases hx with hx | hx | hx
  · rw [if_pos hx, if_pos (by omega)]; omega
  · rw [if_neg (by omega), if_neg (by omega), if_pos hx]; omega
  · rw [if_neg (by omega), if_neg (by omega), if_neg (by omega), if_neg (by omega), if_neg (by omega), if_neg (by omega), if_neg (by omega), if_pos hx, if_pos (by omega)]; omega
theorem ow_row {x r : Nat} (hx : x = 47 ∨ x = 48) : ownr x r = r / 2 := by
  unfold ownr
  rw [if_neg (by omega), if_neg (by omega), if_neg (by omega), if_neg (by omega), if_neg (by omega), if_pos (by omega)]
/-- post: an object to be filled, and what the store is when it has been -/
theorem S_post {A : MA} {e p : Nat} {S : St} (h : RSe A e S) (he : e < 2) (hp : p < 2) (hb : (aP A (2 * e + p)).length ≤ 8) {k : Int32} : ∃ o S1, f_End_post e (I p) k S = some (o, S1) ∧ (9 * (2 * e + p) ≤ o ∧ o < 9 * (2 * e + p) + 9) ∧ S1 26 o 0 = k ∧ S1 27 o 0 = aI A e 2 ∧ frS e S S1 ∧ (∀ x i, x ≠ 48 → x ≠ 26 → x ≠ 27 → S1 x i = S x i) ∧ ∀ q S2, (∀ x i, ¬ (pcd x ∧ i = o) → S2 x i = S1 x i) → ((aP A (2 * e + p)).length ≠ 8 → pkS q S2 o) → RSe (m_post A (2 * e + p) q) e S2 ∧ frS e S S2 := by
  obtain ⟨a, ha, r1, r2, r3⟩ := sr_row h hp
  have hR : 2 * e + p < 4 := by omega
  have hdiv : (2 * e + p) / 2 = e := by omega
  unfold f_End_post f_Row_addNew f_Row_isFull
  rw [inbT hp (by decide), if_pos rfl, I_ix (by omega)]
  have r2' : S cRow_count (2 * e + p) 0 = I (aP A (2 * e + p)).length := r2
  have r1' : S cRow_start (2 * e + p) 0 = I a := r1
  rw [r2', r1']
  by_cases h8 : (aP A (2 * e + p)).length = 8
  · rw [h8, if_neg (show ¬ I 8 < 8 by decide), if_neg (by decide)]
    refine ⟨9 * (2 * e + p) + 8, _, rfl, ⟨by omega, by omega⟩, ?_, ?_, ?_, ?_, ?_⟩
    · rw [up3_code (by decide), up3_at, if_pos rfl]
    · rw [up3_at, if_pos rfl]; exact sr_other h
    · exact (frS.rfl.up (by rw [ow_pk (x := 26) (r := 2 * e + p) (by unfold pcd; omega) (by omega) (by omega) hR, hdiv])).up (by rw [ow_pk (x := 27) (r := 2 * e + p) (by unfold pcd; omega) (by omega) (by omega) hR, hdiv])
    · intro x i x1 x2 x3
      rw [up3_code x3, up3_code x2]
    · intro q S2 c _
      unfold m_post
      rw [if_pos h8]
      have cc : ∀ x i, ¬ (pcd x ∧ i = 9 * (2 * e + p) + 8) → S2 x i = S x i := by
        intro x i hx
        rw [c x i hx, up3_ob (c := 27) (by unfold pcd at hx; omega), up3_ob (c := 26) (by unfold pcd at hx; omega)]
      refine ⟨?_, fun x i hx => cc x i (fun z => hx (by rw [ow_pk z.1 (by omega) (by omega) hR, hdiv]))⟩
      have := RSx_R (L := aP A (2 * e + p)) (S' := S2) h he hp (fun x i _ _ hz => cc x i (fun z => by
        rcases hz with hz | hz
        · exact hz z.1
        · omega)) (fun x i hx _ => cc x i (fun z => by have := z.1; unfold pcd at this; omega)) (rwS_cg (sr_row h hp) (cc 47 _ (fun z => by have := z.1; unfold pcd at this; omega)) (cc 48 _ (fun z => by have := z.1; unfold pcd at this; omega)) (fun x hx i q1 q2 => cc x i (fun z => by omega)))
      have hu : uP A (up1 (aP A) (2 * e + p) (aP A (2 * e + p))) = A := by
        have : up1 (aP A) (2 * e + p) (aP A (2 * e + p)) = aP A := by
          funext r
          unfold up1
          split
          · rename_i z; rw [z]
          · rfl
        rw [this]
      rw [hu] at this
      exact this
  · generalize hl : (aP A (2 * e + p)).length = l at *
    have hl8 : l < 8 := by omega
    rw [if_pos (show I l < 8 from (I_lt (b := 8) (by omega) (by decide)).mpr hl8), if_pos rfl, I_add]
    have em : iRem (I (a + l)) 8 = I ((a + l) % 8) := I_rem (b := 8) (by omega) (by decide)
    rw [em, inbT (show (a + l) % 8 < 8 by omega) (by decide), if_pos rfl, I_ix (by omega), show (1 : Int32) = I 1 from rfl, I_add]
    refine ⟨9 * (2 * e + p) + (a + l) % 8, _, rfl, ⟨by omega, by omega⟩, ?_, ?_, ?_, ?_, ?_⟩
    · rw [up3_code (by decide), up3_at, if_pos rfl]
    · rw [up3_at, if_pos rfl, up3_code (by decide)]; exact sr_other h
    · exact ((frS.rfl.up (by rw [ow_row (Or.inr rfl), hdiv])).up (by rw [ow_pk (x := 26) (r := 2 * e + p) (by unfold pcd; omega) (by omega) (by omega) hR, hdiv])).up (by rw [ow_pk (x := 27) (r := 2 * e + p) (by unfold pcd; omega) (by omega) (by omega) hR, hdiv])
    · intro x i x1 x2 x3
      rw [up3_code x3, up3_code x2, up3_code x1]
    · intro q S2 c hq
      unfold m_post
      rw [if_neg (by omega)]
      have cc : ∀ x i, ¬ (pcd x ∧ i = 9 * (2 * e + p) + (a + l) % 8) → (x ≠ 48 ∨ i ≠ 2 * e + p) → S2 x i = S x i := by
        intro x i hx h48
        rw [c x i hx, up3_ob (c := 27) (by unfold pcd at hx; omega), up3_ob (c := 26) (by unfold pcd at hx; omega), up3_ob (c := 48) h48]
      have c48 : S2 48 (2 * e + p) 0 = I (l + 1) := by
        rw [c 48 _ (fun z => by have := z.1; unfold pcd at this; omega), up3_code (by decide), up3_code (by decide), up3_at, if_pos rfl]
      refine ⟨RSx_R (S' := S2) h he hp (fun x i _ h48 hz => cc x i (fun z => by
        rcases hz with hz | hz
        · exact hz z.1
        · omega) (Or.inl h48)) (fun x i hx hi => cc x i (fun z => by have := z.1; unfold pcd at this; omega) (Or.inr hi)) ⟨a, ha, by rw [cc 47 _ (fun z => by have := z.1; unfold pcd at this; omega) (Or.inl (by decide))]; exact r1, by rw [c48, List.length_append, hl]; rfl, fun i w hw => ?_⟩, fun x i hx => cc x i (fun z => hx (by rw [ow_pk z.1 (by omega) (by omega) hR, hdiv])) (by
          by_cases z : x = 48 ∧ i = 2 * e + p
          · obtain ⟨rfl, rfl⟩ := z
            exact absurd (by rw [ow_row (Or.inr rfl), hdiv]) hx
          · omega)⟩
      by_cases hi : i < l
      · rw [List.getElem?_append_left (by omega)] at hw
        refine pkS_cg (r3 i w hw) (fun x hx => cc x _ (fun z => by omega) (Or.inl (by unfold pcd at hx; omega)))
      · rw [List.getElem?_append_right (by omega)] at hw
        have hz : i - (aP A (2 * e + p)).length = 0 := by
          by_cases z : i - (aP A (2 * e + p)).length = 0
          · exact z
          · rw [List.getElem?_eq_none (by simp; omega)] at hw
            cases hw
        rw [hz] at hw
        cases hw
        rw [show i = l by omega]
        exact hq (by omega)
