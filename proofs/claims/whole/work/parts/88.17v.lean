/-! The law's loop. -/
def lawI (i : Nat) (x : Int32 × St × St) : Prop := ∃ c, i + c = 512 ∧ x.1 = I (3 + 8 * c) ∧ PR c x.2.1 x.2.2
theorem law_727 {scr : Nat × (Nat → Int32)} {c i : Nat} (hi : i + c = 512) (hc : c ≤ 511) {S T : St} (h : PR (c + 1) S T) : sat (f_Law_law_727 scr 0 0 0 (I (3 + 8 * c)) S T) (Sum.elim (fun s' => ∃ j, j < i ∧ lawI j s') (fun r => r.1 = 1)) := by
  unfold f_Law_law_727
  refine .some ⟨511 - c, by omega, c + 1, by omega, ?_, h⟩
  show I (3 + 8 * c) + I 8 = I (3 + 8 * (c + 1))
  rw [I_add]
  congr 1
theorem st2_go {scr : Nat × (Nat → Int32)} {c i : Nat} (hi : i + c = 512) (hc : c ≤ 511) {a b : Option (Int32 × St)} (h : st2 c a b) : sat (bd2 a (fun r S' => bd2 b (fun r' T' => if r = r' then f_Law_law_727 scr 0 0 0 (I (3 + 8 * c)) S' T' else exW (some ((0 : Int32), S', T'))))) (Sum.elim (fun s' => ∃ j, j < i ∧ lawI j s') (fun r => r.1 = 1)) := by
  refine .bd2 h (fun r S' hh => .bd2 hh (fun r' T' hy => ?_))
  exact .ip hy.1 (law_727 hi hc hy.2)
theorem qu2_go {scr : Nat × (Nat → Int32)} {c i : Nat} (hi : i + c = 512) (hc : c ≤ 511) {S T : St} (h : PR c S T) {a b : Option Int32} (hq : qu2 a b) : sat (bd a (fun r => bd b (fun r' => if r = r' then f_Law_law_727 scr 0 0 0 (I (3 + 8 * c)) S T else exW (some ((0 : Int32), S, T))))) (Sum.elim (fun s' => ∃ j, j < i ∧ lawI j s') (fun r => r.1 = 1)) := by
  obtain ⟨r, h1, h2⟩ := hq
  rw [h1, h2]
  show sat (if r = r then f_Law_law_727 scr 0 0 0 (I (3 + 8 * c)) S T else exW (some ((0 : Int32), S, T))) _
  rw [if_pos rfl]
  exact law_727 hi hc (PR_up h)
theorem law_body {L : Nat} {xs : Nat → Int32} (hL : L ≤ 4099) (i : Nat) (x : Int32 × St × St) (hI : lawI i x) : sat (f_Law_law_48_b (L, xs) 0 0 0 x) (Sum.elim (fun s' => ∃ j, j < i ∧ lawI j s') (fun r => r.1 = 1)) := by
  obtain ⟨l3, S, T⟩ := x
  obtain ⟨c, hi, h3, h⟩ := hI
  dsimp only at h3 h
  subst h3
  have c512 : c ≤ 512 := by omega
  unfold f_Law_law_48_b
  dsimp only
  refine .ite (fun _ => .exW (.some rfl)) (fun hg => ?_)
  have hL8 : 3 + 8 * c + 8 ≤ L := by
    apply Classical.byContradiction
    intro hz
    apply hg
    rw [Int32.lt_iff_toInt_lt, Int32.toInt_sub, I_toInt (a := 3 + 8 * c) (by omega)]
    have e1 : (Int32.ofNat L).toInt = L := I_toInt (a := L) (by omega)
    have e8 : (8 : Int32).toInt = 8 := by decide
    rw [e1, e8]
    have : ((L : Int) - 8).bmod (2 ^ 32) = (L : Int) - 8 := by
      apply Int.bmod_eq_of_le <;> omega
    rw [this]
    omega
  have hc : c ≤ 511 := by omega
  have i0 : inb (I (3 + 8 * c)) L = true := (I_inb (by omega)).mpr (by omega)
  have ik : ∀ k, k < 8 → inb (I (3 + 8 * c) + I k) L = true := fun k hk => by
    rw [I_add]
    exact (I_inb (by omega)).mpr (by omega)
  have i1 : inb (I (3 + 8 * c) + (1 : Int32)) L = true := ik 1 (by decide)
  have i2 : inb (I (3 + 8 * c) + (2 : Int32)) L = true := ik 2 (by decide)
  have i3 : inb (I (3 + 8 * c) + (3 : Int32)) L = true := ik 3 (by decide)
  have i4 : inb (I (3 + 8 * c) + (4 : Int32)) L = true := ik 4 (by decide)
  have i5 : inb (I (3 + 8 * c) + (5 : Int32)) L = true := ik 5 (by decide)
  have i6 : inb (I (3 + 8 * c) + (6 : Int32)) L = true := ik 6 (by decide)
  have i7 : inb (I (3 + 8 * c) + (7 : Int32)) L = true := ik 7 (by decide)
  rw [if_pos i0]
  generalize xs (ix (I (3 + 8 * c))) &&& 15 = op
  refine .ite (fun _ => ?_) (fun _ => .ite (fun _ => ?_) (fun _ => .ite (fun _ => ?_) (fun _ => .ite (fun _ => ?_) (fun _ => .ite (fun _ => ?_) (fun _ => .ite (fun _ => ?_) (fun _ => .ite (fun _ => ?_) (fun _ => .ite (fun _ => ?_) (fun _ => .ite (fun _ => ?_) (fun _ => .ite (fun _ => ?_) (fun _ => .ite (fun _ => ?_) (fun _ => .ite (fun _ => ?_) (fun _ => .ite (fun _ => ?_) (fun _ => .ite (fun _ => ?_) (fun _ => .ite (fun _ => ?_) (fun _ => ?_)))))))))))))))
  · simp only [i1, if_true]
    exact st2_go hi hc (P_open h hc _)
  · rw [if_pos i1, if_pos i2, if_pos i3]
    have key : ∀ u : Int32, (u = 0 ∨ u = 1) → (if xs (ix (I (3 + 8 * c) + (3 : Int32))) = 0 then u = 0 else u = 1) → sat (f_Law_law_183 (L, xs) 0 0 0 (I (3 + 8 * c)) 0 (xs (ix (I (3 + 8 * c) + (1 : Int32)))) (xs (ix (I (3 + 8 * c) + (2 : Int32)))) u S T) (Sum.elim (fun s' => ∃ j, j < i ∧ lawI j s') (fun r => r.1 = 1)) := by
      intro u hu hux
      unfold f_Law_law_183 f_Law_law_220
      simp only [i1, i2, i3, i4, i5, if_true]
      have := st2_go (scr := (L, xs)) hi hc (P_send h hc (xs (ix (I (3 + 8 * c) + (1 : Int32)))) (xs (ix (I (3 + 8 * c) + (2 : Int32)))) (xs (ix (I (3 + 8 * c) + (4 : Int32)))) (xs (ix (I (3 + 8 * c) + (5 : Int32)))) hu)
      by_cases hz : xs (ix (I (3 + 8 * c) + (3 : Int32))) = 0
      · rw [if_pos hz] at hux
        subst hux
        simp only [if_pos hz]
        exact this
      · rw [if_neg hz] at hux
        subst hux
        simp only [if_neg hz]
        exact this
    by_cases hz : xs (ix (I (3 + 8 * c) + (3 : Int32))) = 0
    · rw [if_pos hz]
      exact key 0 (Or.inl rfl) (by rw [if_pos hz])
    · rw [if_neg hz]
      exact key 1 (Or.inr rfl) (by rw [if_neg hz])
  · simp only [i1, i2, if_true]
    exact st2_go hi hc (P_dlv h hc _ _)
  · rw [if_pos i1, if_pos i2, if_pos i3]
    have key : ∀ u : Int32, (u = 0 ∨ u = 1) → (if xs (ix (I (3 + 8 * c) + (3 : Int32))) = 0 then u = 0 else u = 1) → sat (f_Law_law_295 (L, xs) 0 0 0 (I (3 + 8 * c)) 0 (xs (ix (I (3 + 8 * c) + (1 : Int32)))) (xs (ix (I (3 + 8 * c) + (2 : Int32)))) u S T) (Sum.elim (fun s' => ∃ j, j < i ∧ lawI j s') (fun r => r.1 = 1)) := by
      intro u hu hux
      unfold f_Law_law_295 f_Law_law_322
      simp only [i1, i2, i3, if_true]
      have := st2_go (scr := (L, xs)) hi hc (P_alter h (xs (ix (I (3 + 8 * c) + (1 : Int32)))) (xs (ix (I (3 + 8 * c) + (2 : Int32)))) hu)
      by_cases hz : xs (ix (I (3 + 8 * c) + (3 : Int32))) = 0
      · rw [if_pos hz] at hux
        subst hux
        simp only [if_pos hz]
        exact this
      · rw [if_neg hz] at hux
        subst hux
        simp only [if_neg hz]
        exact this
    by_cases hz : xs (ix (I (3 + 8 * c) + (3 : Int32))) = 0
    · rw [if_pos hz]
      exact key 0 (Or.inl rfl) (by rw [if_pos hz])
    · rw [if_neg hz]
      exact key 1 (Or.inr rfl) (by rw [if_neg hz])
  · simp only [i1, i2, i3, i4, i5, i6, i7, if_true]
    exact st2_go hi hc (P_forge h _ _ _ _ _ _ _)
  · exact st2_go hi hc (P_tick h hc)
  · simp only [i1, i2, if_true]
    exact st2_go hi hc (P_read h hc _ _)
  · simp only [i1, i2, if_true]
    exact qu2_go hi hc h (P_ready h hc _ _)
  · simp only [i1, i2, if_true]
    exact qu2_go hi hc h (P_length h hc _ _)
  · simp only [i1, if_true]
    exact st2_go hi hc (P_abort h _)
  · simp only [i1, i2, if_true]
    exact st2_go hi hc (P_primary h _ _)
  · simp only [i1, i2, if_true]
    exact qu2_go hi hc h (P_about h _ _)
  · simp only [i1, i2, i3, if_true]
    exact qu2_go hi hc h (P_path h _ _ _)
  · simp only [i1, i2, if_true]
    exact qu2_go hi hc h (P_waiting h _ _)
  · simp only [i1, i2, if_true]
    exact qu2_go hi hc h (P_word h _ _)
  · exact law_727 hi hc (PR_up h)
theorem law_pure {L : Nat} {xs : Nat → Int32} (hL : L ≤ 4099) {S T : St} (h : PR 0 S T) : ∃ S' T', f_Law_law_48 (L, xs) 0 0 0 (3, S, T) = some (1, S', T') := by
  have : sat (f_Law_law_48 (L, xs) 0 0 0 (3, S, T)) (fun r => r.1 = 1) := by
    unfold f_Law_law_48
    exact sat_iter lawI (law_body hL) (i := 512) (by decide) ⟨0, rfl, rfl, h⟩
  obtain ⟨⟨r, S', T'⟩, e1, e2⟩ := this
  dsimp only at e2
  subst e2
  exact ⟨S', T', e1⟩
