/-! The growing heap without the script: closed runs are runs. -/
def hopB (own : Nat) (i : iI) (st : List iV) (h : HA) : Option (List iV × HA) := match i with
  | .iaload => none
  | .arraylength => none
  | i => hopA (0, fun _ => 0) own i st h
theorem hopB_A {scr : Nat × (Nat → Int32)} {own : Nat} {i : iI} {st : List iV} {h : HA} {o : List iV × HA} (hh : hopB own i st h = some o) : hopA scr own i st h = some o := by
  cases i <;> first | exact hh | cases hh
theorem hopA_inv {scr : Nat × (Nat → Int32)} {own : Nat} {i : iI} {st : List iV} {h : HA} {k : Nat} (hi : iInv i = some k) : hopA scr own i st h = none := by
  cases i <;> first | rfl | cases hi
def metB (F : Nat) : Nat → Nat → List iV → HA → Option (Option iV × HA)
  | 0, _, _, _ => none
  | d + 1, j, as, h => match rcvA as h with
    | false => none
    | true => match j with
      | 0 => match as with
        | [Sum.inr (Sum.inr (Sum.inl (some _)))] => some (none, h)
        | _ => none
      | k + 1 => match mthT (k + 1) with
        | none => none
        | some (own, rk, nL, sf, cd) => match iRcv sf own as with
          | false => none
          | true => match iEntry as nL with
            | none => none
            | some ls => iRun hopB tgT (metB F d) own rk cd F (0, ls, []) h
theorem iOne_B {scr : Nat × (Nat → Int32)} {call call' : Nat → List iV → HA → Option (Option iV × HA)} (hc : ∀ j as h o, call j as h = some o → call' j as h = some o) {own : Nat} {i : iI} {ts : iX} {c : iC} {h : HA} {o : iC × HA} (hh : iOne hopB tgT call own i ts c h = some o) : iOne (hopA scr) tgT call' own i ts c h = some o := by
  unfold iOne at hh ⊢
  split
  · rename_i q; rw [q] at hh; exact hh
  · rename_i q1; rw [q1] at hh; dsimp only at hh
    split at hh
    · rename_i q; rw [hopB_A q]; exact hh
    · split at hh
      · cases hh
      · rename_i k q3
        rw [hopA_inv q3]
        dsimp only
        try rw [q3]
        try dsimp only
        split
        · rename_i q; rw [q] at hh; exact hh
        · rename_i q4; rw [q4] at hh; dsimp only at hh
          split
          · rename_i q; rw [q] at hh; exact hh
          · rename_i q5; rw [q5] at hh; dsimp only at hh
            split at hh
            · cases hh
            · rename_i q6
              rw [hc _ _ _ _ q6]
              exact hh
theorem iRun_B {scr : Nat × (Nat → Int32)} {call call' : Nat → List iV → HA → Option (Option iV × HA)} (hc : ∀ j as h o, call j as h = some o → call' j as h = some o) {own rk : Nat} {cd : List iE} {f : Nat} : ∀ {c : iC} {h : HA} {o : Option iV × HA}, iRun hopB tgT call own rk cd f c h = some o → iRun (hopA scr) tgT call' own rk cd f c h = some o := by
  induction f with
  | zero => intro c h o hh; cases hh
  | succ f ih =>
    intro c h o hh
    unfold iRun at hh ⊢
    split
    · rename_i q; rw [q] at hh; cases hh
    · rename_i q; rw [q] at hh; dsimp only at hh
      split
      · rename_i q2; rw [q2] at hh; exact hh
      · rename_i q2; rw [q2] at hh; dsimp only at hh
        split at hh
        · cases hh
        · rename_i q3
          rw [iOne_B hc q3]
          exact ih hh
theorem iGo_B {scr : Nat × (Nat → Int32)} {call call' : Nat → List iV → HA → Option (Option iV × HA)} (hc : ∀ j as h o, call j as h = some o → call' j as h = some o) {own rk : Nat} {cd : List iE} {f : Nat} : ∀ {c : iC} {h : HA} {o : iC × HA}, iGo hopB tgT call own rk cd f c h = some o → iGo (hopA scr) tgT call' own rk cd f c h = some o := by
  induction f with
  | zero => intro c h o hh; exact hh
  | succ f ih =>
    intro c h o hh
    unfold iGo at hh ⊢
    split
    · rename_i q; rw [q] at hh; cases hh
    · rename_i q; rw [q] at hh; dsimp only at hh
      split
      · rename_i q2; rw [q2] at hh; exact hh
      · rename_i q2; rw [q2] at hh; dsimp only at hh
        split at hh
        · cases hh
        · rename_i q3
          rw [iOne_B hc q3]
          exact ih hh
theorem metB_A {scr : Nat × (Nat → Int32)} {F : Nat} : ∀ {d j : Nat} {as : List iV} {h : HA} {o : Option iV × HA}, metB F d j as h = some o → metA scr F d j as h = some o := by
  intro d
  induction d with
  | zero => intro j as h o hh; cases hh
  | succ d ih =>
    intro j as h o hh
    unfold metB at hh
    unfold metA
    split
    · rename_i q; rw [q] at hh; cases hh
    · rename_i q; rw [q] at hh; dsimp only at hh
      split
      · exact hh
      · dsimp only at hh
        split
        · rename_i q2; rw [q2] at hh; cases hh
        · rename_i q2; rw [q2] at hh; dsimp only at hh
          split
          · rename_i q3; rw [q3] at hh; cases hh
          · rename_i q3; rw [q3] at hh; dsimp only at hh
            split
            · rename_i q4; rw [q4] at hh; cases hh
            · rename_i q4; rw [q4] at hh; dsimp only at hh
              exact iRun_B (fun j as h o => ih) hh
/-! Equality of heaps, by a function. -/
def eqV : iV → iV → Bool
  | Sum.inl a, Sum.inl b => decide (a = b)
  | Sum.inr (Sum.inr (Sum.inl none)), Sum.inr (Sum.inr (Sum.inl none)) => true
  | Sum.inr (Sum.inr (Sum.inl (some (a, b)))), Sum.inr (Sum.inr (Sum.inl (some (c, d)))) => Nat.beq a c && Nat.beq b d
  | Sum.inr (Sum.inr (Sum.inr a)), Sum.inr (Sum.inr (Sum.inr b)) => Nat.beq a b
  | _, _ => false
theorem eqV_eq {a b : iV} (h : eqV a b = true) : a = b := by
  unfold eqV at h
  split at h
  · rw [of_decide_eq_true h]
  · rfl
  · rw [Bool.and_eq_true] at h
    rw [Nat.eq_of_beq_eq_true h.1, Nat.eq_of_beq_eq_true h.2]
  · rw [Nat.eq_of_beq_eq_true h]
  · cases h
def eqL : List iV → List iV → Bool
  | [], [] => true
  | a :: r, b :: q => eqV a b && eqL r q
  | _, _ => false
theorem eqL_eq : ∀ {a b : List iV}, eqL a b = true → a = b := by
  intro a
  induction a with
  | nil => intro b h; cases b with | nil => rfl | cons x y => cases h
  | cons x r ih =>
    intro b h
    cases b with
    | nil => cases h
    | cons y q =>
      have h : (eqV x y && eqL r q) = true := h
      rw [Bool.and_eq_true] at h
      rw [eqV_eq h.1, ih h.2]
def eqH : HA → HA → Bool
  | [], [] => true
  | a :: r, b :: q => (Nat.beq a.1 b.1 && eqL a.2 b.2) && eqH r q
  | _, _ => false
theorem eqH_eq : ∀ {a b : HA}, eqH a b = true → a = b := by
  intro a
  induction a with
  | nil => intro b h; cases b with | nil => rfl | cons x y => cases h
  | cons x r ih =>
    intro b h
    cases b with
    | nil => cases h
    | cons y q =>
      have h : ((Nat.beq x.1 y.1 && eqL x.2 y.2) && eqH r q) = true := h
      rw [Bool.and_eq_true, Bool.and_eq_true] at h
      obtain ⟨⟨h1, h2⟩, h3⟩ := h
      obtain ⟨x1, x2⟩ := x
      obtain ⟨y1, y2⟩ := y
      have e1 : x1 = y1 := Nat.eq_of_beq_eq_true h1
      have e2 : x2 = y2 := eqL_eq h2
      rw [e1, e2, ih h3]
