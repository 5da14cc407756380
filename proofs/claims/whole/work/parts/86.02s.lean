/-! What of the model an end's part looks at. -/
def eqX (A A' : MA) (e : Nat) : Prop := ((aI A' e 0 = aI A e 0 ∧ aI A' e 1 = aI A e 1 ∧ aI A' e 2 = aI A e 2 ∧ aI A' e 3 = aI A e 3) ∧ aI A' e 10 = aI A e 10) ∧ ((aN A' e 0 = aN A e 0 ∧ aN A' e 1 = aN A e 1) ∧ (aN A' e 3 = aN A e 3 ∧ aN A' e 4 = aN A e 4 ∧ aN A' e 5 = aN A e 5) ∧ ∀ s, s < 3 → aN A' e (13 + s) = aN A e (13 + s) ∧ aN A' e (16 + s) = aN A e (16 + s)) ∧ (aR A' e = aR A e ∧ aO A' e = aO A e ∧ aH A' e = aH A e ∧ aW A' e = aW A e) ∧ (aP A' (2 * e) = aP A (2 * e) ∧ aP A' (2 * e + 1) = aP A (2 * e + 1)) ∧ (gN A' 1 = gN A 1 ∧ gN A' 2 = gN A 2 ∧ gI A' = gI A)
theorem eqX.rfl {A : MA} {e : Nat} : eqX A A e := ⟨⟨⟨Eq.refl _, Eq.refl _, Eq.refl _, Eq.refl _⟩, Eq.refl _⟩, ⟨⟨Eq.refl _, Eq.refl _⟩, ⟨Eq.refl _, Eq.refl _, Eq.refl _⟩, fun _ _ => ⟨Eq.refl _, Eq.refl _⟩⟩, ⟨Eq.refl _, Eq.refl _, Eq.refl _, Eq.refl _⟩, ⟨Eq.refl _, Eq.refl _⟩, ⟨Eq.refl _, Eq.refl _, Eq.refl _⟩⟩
theorem eqX.trans {A B C : MA} {e : Nat} (h : eqX A B e) (k : eqX B C e) : eqX A C e := by
  obtain ⟨⟨⟨a1, a2, a3, a4⟩, a5⟩, ⟨⟨a6, a7⟩, ⟨a8, a9, a10⟩, a11⟩, ⟨a12, a13, a14, a15⟩, ⟨a16, a17⟩, ⟨a18, a19, a20⟩⟩ := h
  obtain ⟨⟨⟨b1, b2, b3, b4⟩, b5⟩, ⟨⟨b6, b7⟩, ⟨b8, b9, b10⟩, b11⟩, ⟨b12, b13, b14, b15⟩, ⟨b16, b17⟩, ⟨b18, b19, b20⟩⟩ := k
  exact ⟨⟨⟨b1.trans a1, b2.trans a2, b3.trans a3, b4.trans a4⟩, b5.trans a5⟩, ⟨⟨b6.trans a6, b7.trans a7⟩, ⟨b8.trans a8, b9.trans a9, b10.trans a10⟩, fun s hs => ⟨(b11 s hs).1.trans (a11 s hs).1, (b11 s hs).2.trans (a11 s hs).2⟩⟩, ⟨b12.trans a12, b13.trans a13, b14.trans a14, b15.trans a15⟩, ⟨b16.trans a16, b17.trans a17⟩, ⟨b18.trans a18, b19.trans a19, b20.trans a20⟩⟩
theorem eqX_I {A : MA} {e i : Nat} {v : Int32} (h : 4 ≤ i ∧ i ≠ 10) : eqX A (sI A e i v) e := ⟨⟨⟨up2_ne2 (by omega), up2_ne2 (by omega), up2_ne2 (by omega), up2_ne2 (by omega)⟩, up2_ne2 (by omega)⟩, eqX.rfl.2⟩
theorem eqX_N {A : MA} {e i v : Nat} (h : i = 2 ∨ (6 ≤ i ∧ i ≤ 12) ∨ 19 ≤ i) : eqX A (sN A e i v) e := ⟨eqX.rfl.1, ⟨⟨up2_ne2 (by omega), up2_ne2 (by omega)⟩, ⟨up2_ne2 (by omega), up2_ne2 (by omega), up2_ne2 (by omega)⟩, fun s hs => ⟨up2_ne2 (by omega), up2_ne2 (by omega)⟩⟩, eqX.rfl.2.2⟩
theorem eqX_B {A : MA} {e i : Nat} {v : Bool} : eqX A (sB A e i v) e := eqX.rfl
def ucd (x : Nat) : Prop := x = 10 ∨ x = 14 ∨ x = 25 ∨ (33 ≤ x ∧ x ≤ 41)
theorem RSx_U {A A' : MA} {e : Nat} {S S' : St} (h : RSe A e S) (hA : eqX A A' e) (c : ∀ x i, ¬ ucd x → S' x i = S x i) (hU : aI A e 0 = 3 → uS A' e S') : RSe A' e S' := by
  obtain ⟨⟨⟨a1, a2, a3, a4⟩, a5⟩, ⟨⟨a6, a7⟩, ⟨a8, a9, a10⟩, a11⟩, ⟨a12, a13, a14, a15⟩, ⟨a16, a17⟩, ⟨a18, a19, a20⟩⟩ := hA
  have cc : ∀ x i, x ≠ 10 → x ≠ 14 → x ≠ 25 → (x < 33 ∨ 41 < x) → S' x i = S x i := fun x i p q r s => c x i (by unfold ucd; omega)
  obtain ⟨⟨h1, h2⟩, ⟨h3, h4, h5⟩, ⟨h6, h7⟩, h8⟩ := h
  refine ⟨⟨?_, fun k => hU (by rw [← a1]; exact k)⟩, ⟨fun n a b => ?_, ?_, ?_⟩, ⟨?_, ?_⟩, ?_⟩
  · obtain ⟨⟨e1, e2, e3, e4⟩, ⟨e5, e6⟩, ⟨e7, e8, e9⟩, ⟨e10, e11⟩, e12⟩ := h1
    unfold eS
    rw [a1, a2, a3, a4, a5, a6, a7, a8, a9, a10, a12, cc 7 e (by decide) (by decide) (by decide) (by decide), cc 8 e (by decide) (by decide) (by decide) (by decide), cc 9 e (by decide) (by decide) (by decide) (by decide), cc 13 e (by decide) (by decide) (by decide) (by decide), cc 15 e (by decide) (by decide) (by decide) (by decide), cc 16 e (by decide) (by decide) (by decide) (by decide), cc 23 e (by decide) (by decide) (by decide) (by decide), cc 24 e (by decide) (by decide) (by decide) (by decide), cc 21 e (by decide) (by decide) (by decide) (by decide), cc 22 e (by decide) (by decide) (by decide) (by decide), cc 19 e (by decide) (by decide) (by decide) (by decide), cc 20 e (by decide) (by decide) (by decide) (by decide)]
    exact ⟨⟨e1, e2, e3, e4⟩, ⟨e5, e6⟩, ⟨e7, e8, e9⟩, ⟨fun s hs => by rw [(a11 s hs).1]; exact e10 s hs, fun s hs => by rw [(a11 s hs).2]; exact e11 s hs⟩, e12⟩
  · rw [a8] at a
    rw [a9] at b
    rw [a13]
    exact owS_cg (h3 n a b) (fun x p q => cc x _ (by omega) (by omega) (by omega) (by omega)) (fun x p q => cc x _ (by omega) (by omega) (by omega) (by omega))
  · obtain ⟨q1, q2, q3, q4⟩ := h4
    unfold hS
    rw [a10, a14, a15, cc 18 e (by decide) (by decide) (by decide) (by decide)]
    refine ⟨fun n p q r => ⟨(q1 n p q r).1, fun z => wrS_cg ((q1 n p q r).2 z) (fun x y t => cc x _ (by omega) (by omega) (by omega) (by omega))⟩, q2, fun n p q => ?_, fun k hk => ?_⟩
    · rw [cc 54 _ (by decide) (by decide) (by decide) (by decide)]
      exact q3 n p q
    · rw [cc 54 _ (by decide) (by decide) (by decide) (by decide)]
      exact q4 k hk
  · rw [a12]
    obtain ⟨q1, q2, q3⟩ := h5
    refine ⟨by rw [cc 45 e (by decide) (by decide) (by decide) (by decide)]; exact q1, by rw [cc 46 e (by decide) (by decide) (by decide) (by decide)]; exact q2, fun i q hq => ?_⟩
    rw [cc 42 e (by decide) (by decide) (by decide) (by decide), cc 43 e (by decide) (by decide) (by decide) (by decide), cc 44 e (by decide) (by decide) (by decide) (by decide)]
    exact q3 i q hq
  · rw [a16]
    exact rwS_cg h6 (cc 47 _ (by decide) (by decide) (by decide) (by decide)) (cc 48 _ (by decide) (by decide) (by decide) (by decide)) (fun x hx i _ _ => cc x i (by unfold pcd at hx; omega) (by unfold pcd at hx; omega) (by unfold pcd at hx; omega) (by unfold pcd at hx; omega))
  · rw [a17]
    exact rwS_cg h7 (cc 47 _ (by decide) (by decide) (by decide) (by decide)) (cc 48 _ (by decide) (by decide) (by decide) (by decide)) (fun x hx i _ _ => cc x i (by unfold pcd at hx; omega) (by unfold pcd at hx; omega) (by unfold pcd at hx; omega) (by unfold pcd at hx; omega))
  · obtain ⟨k1, k2, k3, k4⟩ := h8
    refine ⟨by rw [a18, cc 11 e (by decide) (by decide) (by decide) (by decide)]; exact k1, by rw [a19, cc 12 e (by decide) (by decide) (by decide) (by decide)]; exact k2, by rw [a18, cc 17 e (by decide) (by decide) (by decide) (by decide)]; exact k3, fun z => ?_⟩
    rw [a20]
    exact ckS_cg (k4 z) (fun x a b => cc x 36 (by omega) (by omega) (by omega) (by omega))
def eqP (A A' : MA) (e p : Nat) : Prop := (aN A' e (7 + p) = aN A e (7 + p) ∧ aN A' e (9 + p) = aN A e (9 + p) ∧ aN A' e (11 + p) = aN A e (11 + p)) ∧ (aI A' e (6 + p) = aI A e (6 + p) ∧ aI A' e (8 + p) = aI A e (8 + p)) ∧ aB A' e p = aB A e p ∧ aB A' e (2 + p) = aB A e (2 + p) ∧ aB A' e (4 + p) = aB A e (4 + p)
theorem pS_cg {A A' : MA} {e p : Nat} {S S' : St} (h : pS A e p S) (hA : eqP A A' e p) (c : ∀ x, 33 ≤ x → x ≤ 40 → S' x (2 * e + p) = S x (2 * e + p)) : pS A' e p S' := by
  obtain ⟨⟨a1, a2, a3⟩, ⟨a4, a5⟩, a6, a7, a8⟩ := hA
  unfold pS at *
  rw [a1, a2, a3, a4, a5, a6, a7, a8, c 33 (by decide) (by decide), c 34 (by decide) (by decide), c 35 (by decide) (by decide), c 36 (by decide) (by decide), c 37 (by decide) (by decide), c 38 (by decide) (by decide), c 39 (by decide) (by decide), c 40 (by decide) (by decide)]
  exact h
/-- what is done to one path of an end, with the count of all errors -/
theorem RSx_P {A A' : MA} {e p : Nat} {S S' : St} (h : RSe A e S) (hp : p < 2) (hA : eqX A A' e) (h2 : aN A' e 2 = aN A e 2) (h5 : aI A' e 5 = aI A e 5) (hq : ∀ q, q < 2 → q ≠ p → eqP A A' e q) (c : ∀ x i, x ≠ 14 → (x < 33 ∨ 41 < x ∨ i ≠ 2 * e + p) → S' x i = S x i) (h14 : aI A e 0 = 3 → S 14 e 0 = aI A e 4 → S' 14 e 0 = aI A' e 4) (hP : aI A e 0 = 3 → pS A e p S → pS A' e p S') : RSe A' e S' := by
  refine RSx_U h hA (fun x i hx => c x i (by unfold ucd at hx; omega) (by unfold ucd at hx; omega)) (fun h3 => ?_)
  obtain ⟨⟨u1, u2, u3⟩, u4⟩ := h.1.2 h3
  refine ⟨⟨?_, h14 h3 u2, ?_⟩, fun q hq2 => ?_⟩
  · rw [c 10 e (by decide) (by omega), h2]; exact u1
  · rw [c 25 e (by decide) (by omega), h5]; exact u3
  · by_cases hz : q = p
    · subst hz
      exact hP h3 (u4 q hq2)
    · exact pS_cg (u4 q hq2) (hq q hq2 hz) (fun x a b => c x _ (by omega) (by omega))
theorem ss_allErrors {A : MA} {e : Nat} {S : St} (h : RSe A e S) {v : Int32} : RSe (sI A e 4 v) e (up3 S 14 e 0 v) := by
  refine RSx_U h (eqX_I (by omega)) (fun x i hx => up3_ob (by unfold ucd at hx; omega)) (fun h3 => ?_)
  obtain ⟨⟨u1, u2, u3⟩, u4⟩ := h.1.2 h3
  refine ⟨⟨?_, ?_, ?_⟩, fun q hq => pS_cg (u4 q hq) ⟨⟨Eq.refl _, Eq.refl _, Eq.refl _⟩, ⟨up2_ne2 (by omega), up2_ne2 (by omega)⟩, Eq.refl _, Eq.refl _, Eq.refl _⟩ (fun x a b => up3_ob (by omega))⟩
  · rw [up3_ob (by omega)]; exact u1
  · rw [up3_at, if_pos rfl]; exact up2_eq.symm
  · rw [up3_ob (by omega)]
    have : aI (sI A e 4 v) e 5 = aI A e 5 := up2_ne2 (by decide)
    rw [this]; exact u3
theorem ss_window {A : MA} {e : Nat} {S : St} (h : RSe A e S) {v : Int32} : RSe (sI A e 5 v) e (up3 S 25 e 0 v) := by
  refine RSx_U h (eqX_I (by omega)) (fun x i hx => up3_ob (by unfold ucd at hx; omega)) (fun h3 => ?_)
  obtain ⟨⟨u1, u2, u3⟩, u4⟩ := h.1.2 h3
  refine ⟨⟨?_, ?_, ?_⟩, fun q hq => pS_cg (u4 q hq) ⟨⟨Eq.refl _, Eq.refl _, Eq.refl _⟩, ⟨up2_ne2 (by omega), up2_ne2 (by omega)⟩, Eq.refl _, Eq.refl _, Eq.refl _⟩ (fun x a b => up3_ob (by omega))⟩
  · rw [up3_ob (by omega)]; exact u1
  · rw [up3_ob (by omega)]
    have : aI (sI A e 5 v) e 4 = aI A e 4 := up2_ne2 (by decide)
    rw [this]; exact u2
  · rw [up3_at, if_pos rfl]; exact up2_eq.symm
theorem ss_primary {A : MA} {e v : Nat} {S : St} (h : RSe A e S) : RSe (sN A e 2 v) e (up3 S 10 e 0 (I v)) := by
  refine RSx_U h (eqX_N (by omega)) (fun x i hx => up3_ob (by unfold ucd at hx; omega)) (fun h3 => ?_)
  obtain ⟨⟨u1, u2, u3⟩, u4⟩ := h.1.2 h3
  refine ⟨⟨?_, ?_, ?_⟩, fun q hq => pS_cg (u4 q hq) ⟨⟨up2_ne2 (by omega), up2_ne2 (by omega), up2_ne2 (by omega)⟩, ⟨Eq.refl _, Eq.refl _⟩, Eq.refl _, Eq.refl _, Eq.refl _⟩ (fun x a b => up3_ob (by omega))⟩
  · rw [up3_at, if_pos rfl]
    have : aN (sN A e 2 v) e 2 = v := up2_eq
    rw [this]
  · rw [up3_ob (by omega)]; exact u2
  · rw [up3_ob (by omega)]; exact u3
/-- a path is written anew -/
theorem ss_path {A A' : MA} {e p : Nat} {S S' : St} (h : RSe A e S) (hp : p < 2) (hA : eqX A A' e) (h2 : aN A' e 2 = aN A e 2) (h5 : aI A' e 5 = aI A e 5) (h4 : aI A' e 4 = aI A e 4) (hq : ∀ q, q < 2 → q ≠ p → eqP A A' e q) (c : ∀ x i, (x < 33 ∨ 41 < x ∨ i ≠ 2 * e + p) → S' x i = S x i) (hP : aI A e 0 = 3 → pS A e p S → pS A' e p S') : RSe A' e S' :=
  RSx_P h hp hA h2 h5 hq (fun x i _ b => c x i b) (fun _ z => by rw [c 14 e (by omega), h4]; exact z) hP
/-! Reads. -/
theorem sr_state {A : MA} {e : Nat} {S : St} (h : RSe A e S) : S 7 e 0 = aI A e 0 := h.1.1.1.1
theorem sr_own {A : MA} {e : Nat} {S : St} (h : RSe A e S) : S 8 e 0 = aI A e 1 := h.1.1.1.2.1
theorem sr_other {A : MA} {e : Nat} {S : St} (h : RSe A e S) : S 9 e 0 = aI A e 2 := h.1.1.1.2.2.1
theorem sr_report {A : MA} {e : Nat} {S : St} (h : RSe A e S) : S 13 e 0 = aI A e 3 := h.1.1.1.2.2.2
theorem sr_tries {A : MA} {e : Nat} {S : St} (h : RSe A e S) : S 15 e 0 = I (aN A e 0) := h.1.1.2.1.1
theorem sr_due {A : MA} {e : Nat} {S : St} (h : RSe A e S) : S 16 e 0 = I (aN A e 1) := h.1.1.2.1.2
theorem sr_first {A : MA} {e : Nat} {S : St} (h : RSe A e S) : S 23 e 0 = I (aN A e 3 + 1) := h.1.1.2.2.1.1
theorem sr_next {A : MA} {e : Nat} {S : St} (h : RSe A e S) : S 24 e 0 = I (aN A e 4 + 1) := h.1.1.2.2.1.2.1
theorem sr_latest {A : MA} {e : Nat} {S : St} (h : RSe A e S) : S 21 e 0 = I (aN A e 5) := h.1.1.2.2.1.2.2
theorem sr_orders {A : MA} {e s : Nat} {S : St} (h : RSe A e S) (hs : s < 3) : S 22 e s = I (aN A e (13 + s)) := h.1.1.2.2.2.1.1 s hs
theorem sr_nextO {A : MA} {e s : Nat} {S : St} (h : RSe A e S) (hs : s < 3) : S 19 e s = I (aN A e (16 + s)) := h.1.1.2.2.2.1.2 s hs
theorem sr_unr {A : MA} {e : Nat} {S : St} (h : RSe A e S) : S 20 e 0 = aI A e 10 - sumR (aR A e) := h.1.1.2.2.2.2
theorem sr_o {A : MA} {e n : Nat} {S : St} (h : RSe A e S) (h1 : aN A e 3 < n) (h2 : n ≤ aN A e 4) : owS (aO A e n) n S (24 * e + n % 24) := h.2.1.1 n h1 h2
theorem sr_row {A : MA} {e p : Nat} {S : St} (h : RSe A e S) (hp : p < 2) : rwS (aP A (2 * e + p)) (2 * e + p) S := by
  have : p = 0 ∨ p = 1 := by omega
  rcases this with rfl | rfl
  · exact h.2.2.1.1
  · exact h.2.2.1.2
