/-! The static heap on the machine: what its instructions do is what the machine does. -/
def fVal (ad : Nat → Nat → Nat) (S : SS) (q : Nat × Nat × Nat × Nat) (i : Nat) : Value := match q with
  | (0, x, _, _) => .int (sGet S x i 0)
  | (1, x, _, _) => .int (nz (sGet S x i 0))
  | (2, x, _, b) => .ref (ad x (i + b))
  | (3, x, _, _) => .int (sGet S x i 0)
  | (_, x, a, b) => .ref (ad x (a * i + b))
def cA (ad : Nat → Nat → Nat) (ca : Nat → ClassId) (S : SS) (q : (Nat × Nat × Nat × Nat × Nat) × Nat × Nat) (i : Nat) : va_E := match q.1 with
  | (0, x, _, _, n) => .inl (ca q.2.2, n, .inl (fun j => sGet S x i j))
  | (1, x, _, _, n) => .inl (ca q.2.2, n, .inl (fun j => nz (sGet S x i j)))
  | (2, x, _, _, n) => .inl (ca q.2.2, n, .inr (.inr (.inr (.inr (fun j => some (ad x j))))))
  | (3, x, a, _, n) => .inl (ca q.2.2, n, .inr (.inr (.inr (.inr (fun j => some (ad x (a * i + j)))))))
  | (_, x, a, b, n) => .inl (ca q.2.2, n, .inr (.inr (.inr (.inr (fun j => some (ad x (a * i + j + b)))))))
def cS (ad : Nat → Nat → Nat) (ca : Nat → ClassId) (S : SS) (t i : Nat) : va_E := match Nat.blt t 64 with
  | true => .inr (t, (fkL.getD t []).map (fun q => fVal ad S q i))
  | false => match akL[t - 64]? with
    | some q => cA ad ca S q i
    | none => .inr (0, [])
def wS (ad : Nat → Nat → Nat) (ca : Nat → ClassId) (S : SS) : va_W := OB.map (fun q => (ad q.1 q.2, cS ad ca S q.1 q.2))
def tysS (ca : Nat → ClassId) : List (ClassId × FieldType) := (List.range 7).map (fun k => (ca k, ftL.getD k .int))
theorem tysS_at {ca : Nat → ClassId} {k : Nat} (h : k < 7) : (tysS ca)[k]? = some (ca k, ftL.getD k .int) := by
  unfold tysS
  rw [List.getElem?_map, List.getElem?_range h]
  rfl
theorem sGet_sPut (S : SS) (x i j : Nat) (v : Int32) (x' i' j' : Nat) : sGet (sPut S x i j v) x' i' j' = if x' = x ∧ i' = i ∧ j' = j then v else sGet S x' i' j' := by
  by_cases hx : x' = x
  · subst hx
    have hb : Nat.beq x' x' = true := Nat.beq_refl x'
    by_cases h1 : i' = i ∧ j' = j
    · rw [if_pos ⟨rfl, h1⟩]
      unfold sGet sPut
      cases hb2 : Nat.ble 1000 x' with
      | true => simp only [up3, hb]; rw [if_pos h1]
      | false => simp only [up3, hb]; rw [if_pos h1]
    · rw [if_neg (fun q => h1 q.2)]
      unfold sGet sPut
      cases hb2 : Nat.ble 1000 x' with
      | true => simp only [up3, hb]; rw [if_neg h1]
      | false => simp only [up3, hb]; rw [if_neg h1]
  · rw [if_neg (fun q => hx q.1)]
    have hb : Nat.beq x' x = false := by
      cases hc : Nat.beq x' x with
      | true => exact absurd (Nat.eq_of_beq_eq_true hc) hx
      | false => rfl
    unfold sGet sPut
    cases hb2 : Nat.ble 1000 x with
    | true => cases hb3 : Nat.ble 1000 x' with
      | true => simp only [up3, hb]
      | false => rfl
    | false => cases hb3 : Nat.ble 1000 x' with
      | true => rfl
      | false => simp only [up3, hb]
theorem OB_at {t i : Nat} (h : (t, i) ∈ OB) : ∃ k : Nat, OB[k]? = some (t, i) := by
  obtain ⟨k, hk⟩ := List.getElem?_of_mem h
  exact ⟨k, hk⟩
theorem wS_at {ad : Nat → Nat → Nat} {ca : Nat → ClassId} {S : SS} {k t i : Nat} (h : OB[k]? = some (t, i)) : (wS ad ca S)[k]? = some (ad t i, cS ad ca S t i) := by
  unfold wS
  rw [List.getElem?_map, h]
  rfl
theorem OB_kind {t i : Nat} (h : (t, i) ∈ OB) : t < 13 ∨ (64 ≤ t ∧ ∃ q, akL[t - 64]? = some q) := by
  have := List.all_eq_true.mp ok_ok _ h
  simp only [Bool.or_eq_true, Bool.and_eq_true, Nat.blt_eq, Nat.ble_eq] at this
  rcases this with h1 | ⟨h1, h2⟩
  · exact Or.inl h1
  · refine Or.inr ⟨h1, ?_⟩
    cases hk : akO t with
    | none => rw [hk] at h2; cases h2
    | some k =>
      obtain ⟨-, h3⟩ := akO_ge hk
      cases hq : akL[t - 64]? with
      | none => rw [hq] at h3; cases h3
      | some q => exact ⟨q, rfl⟩
theorem wS_set {ad : Nat → Nat → Nat} {ca : Nat → ClassId} {S S' : SS} {k t i : Nat} (hk : OB[k]? = some (t, i)) (hS : ∀ t' i', (t', i') ∈ OB → ¬ (t' = t ∧ i' = i) → cS ad ca S' t' i' = cS ad ca S t' i') :
    wS ad ca S' = (wS ad ca S).set k (ad t i, cS ad ca S' t i) := by
  apply List.ext_getElem?
  intro n
  have hlt : k < OB.length := (List.getElem?_eq_some_iff.mp hk).1
  by_cases hn : n = k
  · subst hn
    rw [wS_at hk, List.getElem?_set_self (by unfold wS; rw [List.length_map]; exact hlt)]
  · rw [List.getElem?_set_ne (fun q => hn q.symm)]
    unfold wS
    rw [List.getElem?_map, List.getElem?_map]
    cases hq : OB[n]? with
    | none => rfl
    | some q =>
      obtain ⟨t', i'⟩ := q
      have hne : ¬ (t' = t ∧ i' = i) := by
        rintro ⟨rfl, rfl⟩
        exact hn ((List.getElem?_inj (List.getElem?_eq_some_iff.mp hq).1 OB_nd).mp (hq.trans hk.symm))
      show some (ad t' i', cS ad ca S' t' i') = some (ad t' i', cS ad ca S t' i')
      rw [hS t' i' (List.mem_of_getElem? hq) hne]
theorem cS_other {ad : Nat → Nat → Nat} {ca : Nat → ClassId} {S : SS} {x t i j : Nat} {v : Int32} (ho : ownX x = t) {t' i' : Nat} (hm : (t', i') ∈ OB) (hne : ¬ (t' = t ∧ i' = i)) : cS ad ca (sPut S x i j v) t' i' = cS ad ca S t' i' := by
  have key : ∀ x' j', ownX x' = t' → sGet (sPut S x i j v) x' i' j' = sGet S x' i' j' := by
    intro x' j' hx'
    rw [sGet_sPut, if_neg]
    rintro ⟨rfl, rfl, rfl⟩
    exact hne ⟨hx'.symm.trans ho, rfl⟩
  unfold cS
  cases hb : Nat.blt t' 64 with
  | true =>
    have hb' : t' < 64 := Nat.blt_eq.mp hb
    have ht : t' < 13 := by
      rcases OB_kind hm with h | ⟨h, -⟩
      · exact h
      · omega
    have hf := List.all_eq_true.mp fk_ok t' (List.mem_range.mpr ht)
    dsimp only
    congr 2
    apply List.map_congr_left
    intro q hq
    have hq2 := List.all_eq_true.mp hf q hq
    obtain ⟨kd, x', a, b⟩ := q
    rcases kd with _ | _ | _ | _ | kd
    · have e := key x' 0 (Nat.eq_of_beq_eq_true hq2)
      show Value.int (sGet (sPut S x i j v) x' i' 0) = Value.int (sGet S x' i' 0)
      rw [e]
    · have e := key x' 0 (Nat.eq_of_beq_eq_true hq2)
      show Value.int (nz (sGet (sPut S x i j v) x' i' 0)) = Value.int (nz (sGet S x' i' 0))
      rw [e]
    · rfl
    · have e := key x' 0 (Nat.eq_of_beq_eq_true hq2)
      show Value.int (sGet (sPut S x i j v) x' i' 0) = Value.int (sGet S x' i' 0)
      rw [e]
    · rfl
  | false =>
    dsimp only
    cases hq : akL[t' - 64]? with
    | none => rfl
    | some q =>
      have hlt : t' - 64 < akL.length := (List.getElem?_eq_some_iff.mp hq).1
      have hf := List.all_eq_true.mp ak_ok (t' - 64) (List.mem_range.mpr hlt)
      rw [hq] at hf
      have hge : 64 ≤ t' := by
        rcases OB_kind hm with h | ⟨h, -⟩
        · exfalso
          have : Nat.blt t' 64 = true := Nat.blt_eq.mpr (by omega)
          rw [this] at hb
          cases hb
        · exact h
      have e64 : 64 + (t' - 64) = t' := by omega
      rw [e64] at hf
      have hf : akB t' q = true := hf
      obtain ⟨⟨kd, x', a, b, n⟩, cnt, ft⟩ := q
      rcases kd with _ | _ | kd
      · have hf : (Nat.beq (ownX x') t' && Nat.beq ft 0) = true := hf
        rw [Bool.and_eq_true] at hf
        have e := fun j' => key x' j' (Nat.eq_of_beq_eq_true hf.1)
        show Sum.inl (ca ft, n, Sum.inl (fun j' => sGet (sPut S x i j v) x' i' j')) = Sum.inl (ca ft, n, Sum.inl (fun j' => sGet S x' i' j'))
        simp only [e]
      · have hf : (Nat.beq (ownX x') t' && Nat.beq ft 1) = true := hf
        rw [Bool.and_eq_true] at hf
        have e := fun j' => key x' j' (Nat.eq_of_beq_eq_true hf.1)
        show Sum.inl (ca ft, n, Sum.inl (fun j' => nz (sGet (sPut S x i j v) x' i' j'))) = Sum.inl (ca ft, n, Sum.inl (fun j' => nz (sGet S x' i' j')))
        simp only [e]
      · rcases kd with _ | _ | kd
        · rfl
        · rfl
        · rfl
