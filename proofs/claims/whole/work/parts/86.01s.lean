/-! The class's store stands for the model: an end's part. -/
theorem up3_ob {S : St} {c k j : Nat} {v : Int32} {x i : Nat} (h : x ≠ c ∨ i ≠ k) : up3 S c k j v x i = S x i := by
  by_cases hx : x = c
  · subst hx
    funext j'
    rw [up3_same, if_neg (fun z => h.elim (fun q => q rfl) (fun q => q z.1))]
  · rw [up3_code hx]
theorem up3_oj {S : St} {c k j : Nat} {v : Int32} {x i j' : Nat} (h : x ≠ c ∨ i ≠ k ∨ j' ≠ j) : up3 S c k j v x i j' = S x i j' := by
  by_cases hx : x = c ∧ i = k
  · obtain ⟨rfl, rfl⟩ := hx
    rw [up3_at, if_neg (by omega)]
  · rw [up3_ob (by omega)]
def wrS (w : WC) (n : Nat) (S : St) (i : Nat) : Prop := (S 54 i 0 = I n ∧ S 55 i 0 = w.1 ∧ S 56 i 0 = I w.2.1 ∧ S 57 i 0 = I w.2.2.1) ∧ S 58 i 0 = b01 w.2.2.2.1 ∧ S 59 i 0 = b01 w.2.2.2.2.1 ∧ S 60 i 0 = b01 w.2.2.2.2.2
theorem wrS_cg {w : WC} {n : Nat} {S S' : St} {i : Nat} (h : wrS w n S i) (c : ∀ x, 54 ≤ x → x ≤ 60 → S' x i = S x i) : wrS w n S' i := by
  unfold wrS at *
  rw [c 54 (by decide) (by decide), c 55 (by decide) (by decide), c 56 (by decide) (by decide), c 57 (by decide) (by decide), c 58 (by decide) (by decide), c 59 (by decide) (by decide), c 60 (by decide) (by decide)]
  exact h
def ckS (q : Nat → Int32) (S : St) (i : Nat) : Prop := S 3 i 0 = q 0 ∧ S 4 i 0 = q 1 ∧ S 5 i 0 = q 2 ∧ S 6 i 0 = q 3
theorem ckS_cg {q : Nat → Int32} {S S' : St} {i : Nat} (h : ckS q S i) (c : ∀ x, 3 ≤ x → x ≤ 6 → S' x i = S x i) : ckS q S' i := by
  unfold ckS at *
  rw [c 3 (by decide) (by decide), c 4 (by decide) (by decide), c 5 (by decide) (by decide), c 6 (by decide) (by decide)]
  exact h
def pkS (q : Pkt) (S : St) (i : Nat) : Prop := S 26 i 0 = q.1 1 ∧ S 27 i 0 = q.1 0 ∧ (q.1 1 = 0 ∨ q.1 1 = 1 → S 28 i 0 = q.1 2) ∧ (q.1 1 = 1 ∨ q.1 1 = 2 → ckS (fun k => q.1 (3 + k)) S i) ∧ (q.1 1 = 4 → wrS q.2.2 q.2.1 S i) ∧ (q.1 1 = 5 → S 29 i 0 = q.1 2 ∧ S 30 i 0 = q.1 3 ∧ S 31 i 0 = q.1 4) ∧ (q.1 1 = 6 ∨ q.1 1 = 7 → S 32 i 0 = q.1 2)
def pcd (x : Nat) : Prop := (3 ≤ x ∧ x ≤ 6) ∨ (26 ≤ x ∧ x ≤ 32) ∨ (54 ≤ x ∧ x ≤ 60)
theorem pkS_cg {q : Pkt} {S S' : St} {i : Nat} (h : pkS q S i) (c : ∀ x, pcd x → S' x i = S x i) : pkS q S' i := by
  have c' : ∀ x, 26 ≤ x → x ≤ 32 → S' x i = S x i := fun x a b => c x (Or.inr (Or.inl ⟨a, b⟩))
  obtain ⟨h1, h2, h3, h4, h5, h6, h7⟩ := h
  refine ⟨?_, ?_, fun k => ?_, fun k => ckS_cg (h4 k) (fun x a b => c x (Or.inl ⟨a, b⟩)), fun k => wrS_cg (h5 k) (fun x a b => c x (Or.inr (Or.inr ⟨a, b⟩))), fun k => ?_, fun k => ?_⟩
  · rw [c' 26 (by decide) (by decide)]; exact h1
  · rw [c' 27 (by decide) (by decide)]; exact h2
  · rw [c' 28 (by decide) (by decide)]; exact h3 k
  · rw [c' 29 (by decide) (by decide), c' 30 (by decide) (by decide), c' 31 (by decide) (by decide)]; exact h6 k
  · rw [c' 32 (by decide) (by decide)]; exact h7 k
/-- a row is a ring of eight -/
def rwS (L : List Pkt) (r : Nat) (S : St) : Prop := ∃ a, a < 8 ∧ S 47 r 0 = I a ∧ S 48 r 0 = I L.length ∧ ∀ i q, L[i]? = some q → pkS q S (9 * r + (a + i) % 8)
theorem rwS_cg {L : List Pkt} {r : Nat} {S S' : St} (h : rwS L r S) (c1 : S' 47 r = S 47 r) (c2 : S' 48 r = S 48 r) (c3 : ∀ x, pcd x → ∀ i, 9 * r ≤ i → i < 9 * r + 8 → S' x i = S x i) : rwS L r S' := by
  obtain ⟨a, ha, h1, h2, h3⟩ := h
  refine ⟨a, ha, by rw [c1]; exact h1, by rw [c2]; exact h2, fun i q hq => pkS_cg (h3 i q hq) (fun x hx => c3 x hx _ (by omega) (by omega))⟩
def owS (o : OW) (n : Nat) (S : St) (i : Nat) : Prop := (S 49 i 0 = o.2.1 ∧ S 50 i 0 = I o.2.2.1 ∧ S 51 i 0 = I o.2.2.2) ∧ wrS o.1 n S (i + 36)
theorem owS_cg {o : OW} {n : Nat} {S S' : St} {i : Nat} (h : owS o n S i) (c : ∀ x, 49 ≤ x → x ≤ 51 → S' x i = S x i) (c2 : ∀ x, 54 ≤ x → x ≤ 60 → S' x (i + 36) = S x (i + 36)) : owS o n S' i := by
  obtain ⟨⟨h1, h2, h3⟩, h4⟩ := h
  refine ⟨⟨?_, ?_, ?_⟩, wrS_cg h4 c2⟩
  · rw [c 49 (by decide) (by decide)]; exact h1
  · rw [c 50 (by decide) (by decide)]; exact h2
  · rw [c 51 (by decide) (by decide)]; exact h3
def eS (A : MA) (e : Nat) (S : St) : Prop := (S 7 e 0 = aI A e 0 ∧ S 8 e 0 = aI A e 1 ∧ S 9 e 0 = aI A e 2 ∧ S 13 e 0 = aI A e 3) ∧ (S 15 e 0 = I (aN A e 0) ∧ S 16 e 0 = I (aN A e 1)) ∧ (S 23 e 0 = I (aN A e 3 + 1) ∧ S 24 e 0 = I (aN A e 4 + 1) ∧ S 21 e 0 = I (aN A e 5)) ∧ ((∀ s, s < 3 → S 22 e s = I (aN A e (13 + s))) ∧ ∀ s, s < 3 → S 19 e s = I (aN A e (16 + s))) ∧ S 20 e 0 = aI A e 10 - sumR (aR A e)
def pS (A : MA) (e p : Nat) (S : St) : Prop := (S 33 (2 * e + p) 0 = I (aN A e (7 + p)) ∧ S 34 (2 * e + p) 0 = I (aN A e (9 + p)) ∧ S 35 (2 * e + p) 0 = aI A e (6 + p)) ∧ S 36 (2 * e + p) 0 = b01 (aB A e p) ∧ (S 37 (2 * e + p) 0 = b01 (aB A e (2 + p)) ∧ (aB A e (2 + p) = true → S 38 (2 * e + p) 0 = I (aN A e (11 + p)))) ∧ S 39 (2 * e + p) 0 = b01 (aB A e (4 + p)) ∧ (aB A e (4 + p) = true → S 40 (2 * e + p) 0 = aI A e (8 + p))
def uS (A : MA) (e : Nat) (S : St) : Prop := (S 10 e 0 = I (aN A e 2) ∧ S 14 e 0 = aI A e 4 ∧ S 25 e 0 = aI A e 5) ∧ ∀ p, p < 2 → pS A e p S
def oS (A : MA) (e : Nat) (S : St) : Prop := ∀ n, aN A e 3 < n → n ≤ aN A e 4 → owS (aO A e n) n S (24 * e + n % 24)
def hS (A : MA) (e : Nat) (S : St) : Prop := (∀ n, 1 ≤ n → aN A e 5 < n + 4 → n ≤ aN A e 5 + 16 → S 18 e (n % 32) = b01 (aH A e 1 n) ∧ (aH A e 1 n = true → wrS (aW A e n) n S (32 * e + n % 32 + 84))) ∧ (∀ k, k < 32 → S 18 e k ≠ 0 → ∃ n, 1 ≤ n ∧ aN A e 5 < n + 4 ∧ n ≤ aN A e 5 + 16 ∧ n % 32 = k ∧ aH A e 1 n = true) ∧ (∀ n, aN A e 5 < n → n ≤ aN A e 5 + 16 → (S 54 (32 * e + n % 32 + 84) 0 = I n ↔ aH A e 0 n = true)) ∧ ∀ k, k < 32 → ∃ m, m ≤ aN A e 5 + 16 ∧ S 54 (32 * e + k + 84) 0 = I m
def rS (L : List RM) (e : Nat) (S : St) : Prop := S 45 e 0 = I L.length ∧ S 46 e 0 = sumR L ∧ ∀ i q, L[i]? = some q → S 42 e i = I q.1 ∧ S 43 e i = q.2.1 ∧ S 44 e i = I q.2.2
def kS (A : MA) (e : Nat) (S : St) : Prop := S 11 e 0 = I (gN A 1) ∧ S 12 e 0 = I (gN A 2) ∧ S 17 e 0 = I (gN A 1) ∧ (e = 0 → ckS (gI A) S 36)
def RSe (A : MA) (e : Nat) (S : St) : Prop := (eS A e S ∧ (aI A e 0 = 3 → uS A e S)) ∧ (oS A e S ∧ hS A e S ∧ rS (aR A e) e S) ∧ (rwS (aP A (2 * e)) (2 * e) S ∧ rwS (aP A (2 * e + 1)) (2 * e + 1) S) ∧ kS A e S
/-- whose a cell is: 0, 1, or 2 for nobody's -/
def ownr (x i : Nat) : Nat := if 3 ≤ x ∧ x ≤ 6 then (if i < 36 then i / 18 else i - 36) else if 7 ≤ x ∧ x ≤ 25 then i else if 26 ≤ x ∧ x ≤ 32 then i / 18 else if 33 ≤ x ∧ x ≤ 41 then i / 2 else if 42 ≤ x ∧ x ≤ 46 then i else if 47 ≤ x ∧ x ≤ 48 then i / 2 else if 49 ≤ x ∧ x ≤ 51 then i / 24 else if 54 ≤ x ∧ x ≤ 60 then (if i < 36 then i / 18 else if i < 84 then (i - 36) / 24 else (i - 84) / 32) else 2
def frS (e : Nat) (S S' : St) : Prop := ∀ x i, ownr x i ≠ e → S' x i = S x i
theorem frS.rfl {e : Nat} {S : St} : frS e S S := fun _ _ _ => Eq.refl _
theorem frS.trans {e : Nat} {S S1 S2 : St} (h1 : frS e S S1) (h2 : frS e S1 S2) : frS e S S2 := fun x i h => (h2 x i h).trans (h1 x i h)
theorem frS.up {e c k j : Nat} {v : Int32} {S S1 : St} (h1 : frS e S S1) (h : ownr c k = e) : frS e S (up3 S1 c k j v) := fun x i hx => by
  rw [up3_ob (by
    by_cases z : x = c ∧ i = k
    · obtain ⟨rfl, rfl⟩ := z
      exact absurd h hx
    · omega)]
  exact h1 x i hx
/-- the end's own cells, all that RSe looks at -/
theorem RSe_cg {A : MA} {e : Nat} {S S' : St} (h : RSe A e S) (he : e < 2) (c : ∀ x i, ownr x i = e → S' x i = S x i) : RSe A e S' := by
  have o1 : ∀ x, 7 ≤ x → x ≤ 25 → S' x e = S x e := fun x a b => c x e (by unfold ownr; rw [if_neg (by omega), if_pos (by omega)])
  have o2 : ∀ x p, 33 ≤ x → x ≤ 41 → p < 2 → S' x (2 * e + p) = S x (2 * e + p) := fun x p a b hp => c x _ (by unfold ownr; rw [if_neg (by omega), if_neg (by omega), if_neg (by omega), if_pos (by omega)]; omega)
  have o3 : ∀ x, 42 ≤ x → x ≤ 46 → S' x e = S x e := fun x a b => c x e (by unfold ownr; rw [if_neg (by omega), if_neg (by omega), if_neg (by omega), if_neg (by omega), if_pos (by omega)])
  have o4 : ∀ x p, 47 ≤ x → x ≤ 48 → p < 2 → S' x (2 * e + p) = S x (2 * e + p) := fun x p a b hp => c x _ (by unfold ownr; rw [if_neg (by omega), if_neg (by omega), if_neg (by omega), if_neg (by omega), if_neg (by omega), if_pos (by omega)]; omega)
  have o5 : ∀ x k, 49 ≤ x → x ≤ 51 → k < 24 → S' x (24 * e + k) = S x (24 * e + k) := fun x k a b hk => c x _ (by unfold ownr; rw [if_neg (by omega), if_neg (by omega), if_neg (by omega), if_neg (by omega), if_neg (by omega), if_neg (by omega), if_pos (by omega)]; omega)
  have o6 : ∀ x k, 54 ≤ x → x ≤ 60 → k < 24 → S' x (24 * e + k + 36) = S x (24 * e + k + 36) := fun x k a b hk => c x _ (by unfold ownr; rw [if_neg (by omega), if_neg (by omega), if_neg (by omega), if_neg (by omega), if_neg (by omega), if_neg (by omega), if_neg (by omega), if_pos (by omega), if_neg (by omega), if_pos (by omega)]; omega)
  have o7 : ∀ x k, 54 ≤ x → x ≤ 60 → k < 32 → S' x (32 * e + k + 84) = S x (32 * e + k + 84) := fun x k a b hk => c x _ (by unfold ownr; rw [if_neg (by omega), if_neg (by omega), if_neg (by omega), if_neg (by omega), if_neg (by omega), if_neg (by omega), if_neg (by omega), if_pos (by omega), if_neg (by omega), if_neg (by omega)]; omega)
  have o8 : ∀ x, pcd x → ∀ i, 18 * e ≤ i → i < 18 * e + 18 → S' x i = S x i := fun x hx i a b => c x i (by
    unfold pcd at hx
    unfold ownr
    rcases hx with hx | hx | hx
    · rw [if_pos hx, if_pos (by omega)]; omega
    · rw [if_neg (by omega), if_neg (by omega), if_pos hx]; omega
    · rw [if_neg (by omega), if_neg (by omega), if_neg (by omega), if_neg (by omega), if_neg (by omega), if_neg (by omega), if_neg (by omega), if_pos hx, if_pos (by omega)]; omega)
  obtain ⟨⟨h1, h2⟩, ⟨h3, h4, h5⟩, ⟨h6, h7⟩, h8⟩ := h
  refine ⟨⟨?_, fun k => ?_⟩, ⟨fun n a b => ?_, ?_, ?_⟩, ⟨?_, ?_⟩, ?_⟩
  · unfold eS at *
    rw [o1 7 (by decide) (by decide), o1 8 (by decide) (by decide), o1 9 (by decide) (by decide), o1 13 (by decide) (by decide), o1 15 (by decide) (by decide), o1 16 (by decide) (by decide), o1 23 (by decide) (by decide), o1 24 (by decide) (by decide), o1 21 (by decide) (by decide), o1 22 (by decide) (by decide), o1 19 (by decide) (by decide), o1 20 (by decide) (by decide)]
    exact h1
  · obtain ⟨u1, u2⟩ := h2 k
    refine ⟨?_, fun p hp => ?_⟩
    · rw [o1 10 (by decide) (by decide), o1 14 (by decide) (by decide), o1 25 (by decide) (by decide)]
      exact u1
    · have := u2 p hp
      unfold pS at *
      rw [o2 33 p (by decide) (by decide) hp, o2 34 p (by decide) (by decide) hp, o2 35 p (by decide) (by decide) hp, o2 36 p (by decide) (by decide) hp, o2 37 p (by decide) (by decide) hp, o2 38 p (by decide) (by decide) hp, o2 39 p (by decide) (by decide) hp, o2 40 p (by decide) (by decide) hp]
      exact this
  · exact owS_cg (h3 n a b) (fun x p q => o5 x _ p q (by omega)) (fun x p q => o6 x _ p q (by omega))
  · obtain ⟨q1, q2, q3, q4⟩ := h4
    refine ⟨fun n a b d => ?_, fun k hk => ?_, fun n a b => ?_, fun k hk => ?_⟩
    · rw [o1 18 (by decide) (by decide)]
      exact ⟨(q1 n a b d).1, fun z => wrS_cg ((q1 n a b d).2 z) (fun x p q => o7 x _ p q (by omega))⟩
    · rw [o1 18 (by decide) (by decide)]
      exact q2 k hk
    · rw [o7 54 _ (by decide) (by decide) (by omega)]
      exact q3 n a b
    · rw [o7 54 _ (by decide) (by decide) (by omega)]
      exact q4 k hk
  · unfold rS at *
    rw [o3 45 (by decide) (by decide), o3 46 (by decide) (by decide), o3 42 (by decide) (by decide), o3 43 (by decide) (by decide), o3 44 (by decide) (by decide)]
    exact h5
  · exact rwS_cg h6 (o4 47 0 (by decide) (by decide) (by decide)) (o4 48 0 (by decide) (by decide) (by decide)) (fun x hx i a b => o8 x hx i (by omega) (by omega))
  · exact rwS_cg h7 (o4 47 1 (by decide) (by decide) (by decide)) (o4 48 1 (by decide) (by decide) (by decide)) (fun x hx i a b => o8 x hx i (by omega) (by omega))
  · obtain ⟨k1, k2, k3, k4⟩ := h8
    refine ⟨by rw [o1 11 (by decide) (by decide)]; exact k1, by rw [o1 12 (by decide) (by decide)]; exact k2, by rw [o1 17 (by decide) (by decide)]; exact k3, fun z => ckS_cg (k4 z) (fun x a b => c x 36 (by unfold ownr; rw [if_pos ⟨a, b⟩, if_neg (by decide), z]))⟩
