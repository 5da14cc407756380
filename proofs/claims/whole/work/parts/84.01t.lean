/-! The reference's methods do what the model does. First frames. -/
theorem bdS {α β : Type} (a : α) (f : α → Option β) : bd (some a) f = f a := rfl
theorem inbT {a n : Nat} (h : a < n) (h2 : n < 2 ^ 31) : inb (I a) n = true := (I_inb (by omega)).mpr h
theorem tI_ne {q : Nat × Nat × Nat} (h : q ∈ tI) {y : Nat} (hy : scal y = false) : q.1 ≠ y := fun z => scal_ne (scal_I h) hy z.symm
theorem tN_ne {q : Nat × Nat × Nat} (h : q ∈ tN) {y : Nat} (hy : scal y = false) : q.1 ≠ y := fun z => scal_ne (scal_N h) hy z.symm
theorem tB_ne {q : Nat × Nat × Nat} (h : q ∈ tB) {y : Nat} (hy : scal y = false) : q.1 ≠ y := fun z => scal_ne (scal_B h) hy z.symm
/-- codes that are no scalars may change: the scalars stay -/
theorem RT_fam {A : MA} {T T' : St} (h : RT A T) (c : ∀ x, scal x = true → T' x = T x) : famT tI (aI A) T' ∧ famT tN (fun e i => I (aN A e i)) T' ∧ famT tB (fun e i => b01 (aB A e i)) T' :=
  ⟨famT_code h.1.1 (fun q hq => c _ (scal_I hq)), famT_code h.1.2.1 (fun q hq => c _ (scal_N hq)), famT_code h.1.2.2 (fun q hq => c _ (scal_B hq))⟩
theorem RT_P {A : MA} {T T' : St} {ap : Nat → List Pkt} (h : RT A T) (c : ∀ x, x ≠ 1005 → x ≠ 1006 → T' x = T x) (h' : rtP ap T') : RT (uP A ap) T' := by
  refine ⟨RT_fam (A := A) h (fun x hx => c x (fun z => by subst z; cases hx) (fun z => by subst z; cases hx)), ?_⟩
  obtain ⟨h1, h2, h3, h4, h5, h6⟩ := h.2
  exact ⟨rtG_code h1 (c _ (by decide) (by decide)) (c _ (by decide) (by decide)) (c _ (by decide) (by decide)) (c _ (by decide) (by decide)) (c _ (by decide) (by decide)), rtT_code h2 (c _ (by decide) (by decide)) (c _ (by decide) (by decide)) (c _ (by decide) (by decide)) (c _ (by decide) (by decide)), h', rtO_code h4 (fun x a b => c x (by omega) (by omega)), rtH_code h5 (fun x a b => c x (by omega) (by omega)), rtR_code h6 (c _ (by decide) (by decide)) (c _ (by decide) (by decide))⟩
theorem RT_x {A : MA} {T T' : St} (h : RT A T) (c : ∀ x, x ≠ 1007 → x ≠ 1030 → T' x = T x) : RT A T' := by
  refine ⟨RT_fam (A := A) h (fun x hx => c x (fun z => by subst z; cases hx) (fun z => by subst z; cases hx)), ?_⟩
  obtain ⟨h1, h2, h3, h4, h5, h6⟩ := h.2
  exact ⟨rtG_code h1 (c _ (by decide) (by decide)) (c _ (by decide) (by decide)) (c _ (by decide) (by decide)) (c _ (by decide) (by decide)) (c _ (by decide) (by decide)), rtT_code h2 (c _ (by decide) (by decide)) (c _ (by decide) (by decide)) (c _ (by decide) (by decide)) (c _ (by decide) (by decide)), rtP_code h3 (c _ (by decide) (by decide)) (c _ (by decide) (by decide)), rtO_code h4 (fun x a b => c x (by omega) (by omega)), rtH_code h5 (fun x a b => c x (by omega) (by omega)), rtR_code h6 (c _ (by decide) (by decide)) (c _ (by decide) (by decide))⟩
theorem ns_ne {x y : Nat} (hx : scal x = true) (hy : scal y = false) : x ≠ y := fun z => by
  subst z
  rw [hx] at hy
  cases hy
theorem RT_O {A : MA} {T T' : St} {ao : Nat → Nat → OW} (h : RT A T) (c : ∀ x, (x < 1034 ∨ 1040 < x) → T' x = T x) (h' : rtO (aN A) ao T') : RT (uO A ao) T' := by
  refine ⟨RT_fam (A := A) h (fun x hx => c x (by
    by_cases q : 1034 ≤ x ∧ x ≤ 1040
    · rw [rng_ns (Or.inl q)] at hx; cases hx
    · omega)), ?_⟩
  obtain ⟨h1, h2, h3, h4, h5, h6⟩ := h.2
  exact ⟨rtG_code h1 (c _ (by decide)) (c _ (by decide)) (c _ (by decide)) (c _ (by decide)) (c _ (by decide)), rtT_code h2 (c _ (by decide)) (c _ (by decide)) (c _ (by decide)) (c _ (by decide)), rtP_code h3 (c _ (by decide)) (c _ (by decide)), h', rtH_code h5 (fun x a b => c x (by omega)), rtR_code h6 (c _ (by decide)) (c _ (by decide))⟩
theorem RT_H {A : MA} {T T' : St} {ah : Nat → Nat → Nat → Bool} {aw : Nat → Nat → WC} (h : RT A T) (c : ∀ x, (x < 1043 ∨ 1048 < x) → T' x = T x) (h' : rtH ah aw T') : RT (uW (uH A ah) aw) T' := by
  refine ⟨RT_fam (A := A) h (fun x hx => c x (by
    by_cases q : 1043 ≤ x ∧ x ≤ 1048
    · rw [rng_ns (Or.inr q)] at hx; cases hx
    · omega)), ?_⟩
  obtain ⟨h1, h2, h3, h4, h5, h6⟩ := h.2
  exact ⟨rtG_code h1 (c _ (by decide)) (c _ (by decide)) (c _ (by decide)) (c _ (by decide)) (c _ (by decide)), rtT_code h2 (c _ (by decide)) (c _ (by decide)) (c _ (by decide)) (c _ (by decide)), rtP_code h3 (c _ (by decide)) (c _ (by decide)), rtO_code h4 (fun x a b => c x (by omega)), h', rtR_code h6 (c _ (by decide)) (c _ (by decide))⟩
theorem RT_T {A : MA} {T T' : St} {gt : Nat → List Int32} (h : RT A T) (c : ∀ x, (x < 1013 ∨ 1016 < x) → T' x = T x) (h' : rtT gt T') : RT (uGT A gt) T' := by
  have k : ∀ x, scal x = true → (x < 1013 ∨ 1016 < x) := by
    intro x hx
    by_cases q : x = 1013 ∨ x = 1014 ∨ x = 1015 ∨ x = 1016
    · rcases q with rfl | rfl | rfl | rfl <;> cases hx
    · omega
  refine ⟨RT_fam (A := A) h (fun x hx => c x (k x hx)), ?_⟩
  obtain ⟨h1, h2, h3, h4, h5, h6⟩ := h.2
  exact ⟨rtG_code h1 (c _ (by decide)) (c _ (by decide)) (c _ (by decide)) (c _ (by decide)) (c _ (by decide)), h', rtP_code h3 (c _ (by decide)) (c _ (by decide)), rtO_code h4 (fun x a b => c x (by omega)), rtH_code h5 (fun x a b => c x (by omega)), rtR_code h6 (c _ (by decide)) (c _ (by decide))⟩
theorem RT_G {A : MA} {T T' : St} {gn : Nat → Nat} {gi : Nat → Int32} (h : RT A T) (c : ∀ x, x ≠ 1001 → x ≠ 1002 → x ≠ 1003 → x ≠ 1004 → x ≠ 1012 → T' x = T x) (h' : rtG gn gi T') : RT (uGI (uGN A gn) gi) T' := by
  refine ⟨RT_fam (A := A) h (fun x hx => c x (fun z => by subst z; cases hx) (fun z => by subst z; cases hx) (fun z => by subst z; cases hx) (fun z => by subst z; cases hx) (fun z => by subst z; cases hx)), ?_⟩
  obtain ⟨h1, h2, h3, h4, h5, h6⟩ := h.2
  have d : ∀ x, 1012 < x → T' x = T x := fun x hx => c x (by omega) (by omega) (by omega) (by omega) (by omega)
  have d2 : ∀ x, 1004 < x → x < 1012 → T' x = T x := fun x hx hy => c x (by omega) (by omega) (by omega) (by omega) (by omega)
  exact ⟨h', rtT_code h2 (d _ (by decide)) (d _ (by decide)) (d _ (by decide)) (d _ (by decide)), rtP_code h3 (d2 _ (by decide) (by decide)) (d2 _ (by decide) (by decide)), rtO_code h4 (fun x a b => d x (by omega)), rtH_code h5 (fun x a b => d x (by omega)), rtR_code h6 (d _ (by decide)) (d _ (by decide))⟩
theorem rt_now {A : MA} {T : St} (h : RT A T) : T 1004 0 0 = I (gN A 0) := h.2.1.2.2.2.1
theorem rt_room {A : MA} {T : St} (h : RT A T) : T 1001 0 0 = I (gN A 1) := h.2.1.1
theorem rt_limit {A : MA} {T : St} (h : RT A T) : T 1002 0 0 = I (gN A 2) := h.2.1.2.1
theorem rt_key {A : MA} {T : St} (h : RT A T) : T 1003 0 0 = gI A 4 := h.2.1.2.2.1
theorem rt_cookie {A : MA} {T : St} (h : RT A T) {k : Nat} (hk : k < 4) : T 1012 0 k = gI A k := h.2.1.2.2.2.2 k hk
theorem rt_rows {A : MA} {T : St} (h : RT A T) {r : Nat} (hr : r < 4) : T 1005 0 r = I (aP A r).length := (h.2.2.2.1 r hr).1
theorem rt_pk {A : MA} {T : St} (h : RT A T) {r : Nat} (hr : r < 4) {i : Nat} {q : Pkt} (hq : (aP A r)[i]? = some q) {j : Nat} (hj : j < 8) : T 1006 0 (64 * r + 8 * i + j) = q.1 j := (h.2.2.2.1 r hr).2 i q hq j hj
theorem rt_o {A : MA} {T : St} (h : RT A T) {e n : Nat} (he : e < 2) (h1 : aN A e 3 < n) (h2 : n ≤ aN A e 4) : oT (aO A e n) T (32 * e + n % 32) := h.2.2.2.2.1 e he n h1 h2
theorem rt_h {A : MA} {T : St} (h : RT A T) {e n : Nat} (he : e < 2) (hn : n < 544) : T 1043 0 (544 * e + n) = b01 (aH A e 0 n) ∧ T 1044 0 (544 * e + n) = b01 (aH A e 1 n) ∧ (aH A e 1 n = true → wT (aW A e n) T (544 * e + n)) := h.2.2.2.2.2.1 e he n hn
/-- a loop that goes up by one, k turns are left -/
theorem sat_up {σ ρ : Type} {body : σ → Option (σ ⊕ ρ)} (s : Nat → σ) (k : Nat) {P : ρ → Prop} (step : ∀ i, i < k → body (s i) = some (Sum.inl (s (i + 1)))) (done : sat (body (s k)) (Sum.elim (fun _ => False) P)) {n : Nat} (hn : k < n) : sat (iter body n (s 0)) P := by
  refine sat_iter (fun j x => ∃ i, i ≤ k ∧ j = k - i ∧ x = s i) (P := P) ?_ (i := k) hn ⟨0, by omega, by omega, rfl⟩
  rintro j x ⟨i, hi, rfl, rfl⟩
  by_cases h : i = k
  · subst h
    exact done.imp (fun a ha => by
      cases a with
      | inl _ => exact ha.elim
      | inr r => exact ha)
  · exact ⟨_, step i (by omega), ⟨k - (i + 1), by omega, i + 1, by omega, rfl, rfl⟩⟩
theorem up3_at {S : St} {x i j : Nat} {v : Int32} {j' : Nat} : up3 S x i j v x i j' = if j' = j then v else S x i j' := by
  rw [up3_same]
  by_cases h : j' = j
  · rw [if_pos ⟨rfl, h⟩, if_pos h]
  · rw [if_neg (fun q => h q.2), if_neg h]
