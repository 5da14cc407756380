/-! THE PURE PART. A value is there, and something holds of it. -/
def sat {α : Type} (o : Option α) (P : α → Prop) : Prop := ∃ a, o = some a ∧ P a
theorem sat.some {α : Type} {a : α} {P : α → Prop} (h : P a) : sat (Option.some a) P := ⟨a, rfl, h⟩
theorem sat.imp {α : Type} {o : Option α} {P Q : α → Prop} (h : sat o P) (k : ∀ a, P a → Q a) : sat o Q := by
  obtain ⟨a, h1, h2⟩ := h
  exact ⟨a, h1, k a h2⟩
theorem sat.bd {α β : Type} {o : Option α} {f : α → Option β} {P : α → Prop} {Q : β → Prop} (h : sat o P) (k : ∀ a, P a → sat (f a) Q) : sat (bd o f) Q := by
  obtain ⟨a, rfl, h2⟩ := h
  exact k a h2
theorem sat.bd2 {α β γ : Type} {o : Option (α × β)} {f : α → β → Option γ} {P : α × β → Prop} {Q : γ → Prop} (h : sat o P) (k : ∀ a b, P (a, b) → sat (f a b) Q) : sat (bd2 o f) Q := by
  obtain ⟨⟨a, b⟩, rfl, h2⟩ := h
  exact k a b h2
theorem sat.exW {σ ρ : Type} {o : Option ρ} {P : σ ⊕ ρ → Prop} (h : sat o (fun r => P (Sum.inr r))) : sat (exW (σ := σ) o) P := by
  obtain ⟨a, rfl, h2⟩ := h
  exact ⟨_, rfl, h2⟩
theorem sat.ip {α : Type} {c : Prop} {_ : Decidable c} {a b : Option α} {P : α → Prop} (hc : c) (h : sat a P) : sat (if c then a else b) P := by
  rw [if_pos hc]
  exact h
theorem sat.im {α : Type} {c : Prop} {_ : Decidable c} {a b : Option α} {P : α → Prop} (hc : ¬ c) (h : sat b P) : sat (if c then a else b) P := by
  rw [if_neg hc]
  exact h
theorem sat.ite {α : Type} {c : Prop} {_ : Decidable c} {a b : Option α} {P : α → Prop} (h1 : c → sat a P) (h2 : ¬ c → sat b P) : sat (if c then a else b) P := by
  by_cases hc : c
  · exact .ip hc (h1 hc)
  · exact .im hc (h2 hc)
/-- a loop: a measure that falls, something kept -/
theorem sat_iter {σ ρ : Type} {body : σ → Option (σ ⊕ ρ)} (Inv : Nat → σ → Prop) {P : ρ → Prop} (step : ∀ i s, Inv i s → sat (body s) (Sum.elim (fun s' => ∃ j, j < i ∧ Inv j s') P)) : ∀ {n : Nat} {i : Nat} {s : σ}, i < n → Inv i s → sat (iter body n s) P := by
  intro n
  induction n with
  | zero => intro i s h; omega
  | succ n ih =>
    intro i s hi hI
    obtain ⟨x, hx, hP⟩ := step i s hI
    unfold iter
    rw [hx]
    cases x with
    | inl s' =>
      obtain ⟨j, hj, hI'⟩ := hP
      exact ih (by omega) hI'
    | inr r => exact ⟨r, rfl, hP⟩
/-! Small ints. -/
abbrev I (n : Nat) : Int32 := Int32.ofNat n
theorem I_lit (n : Nat) : (OfNat.ofNat n : Int32) = I n := rfl
theorem I_add (a b : Nat) : I a + I b = I (a + b) := (Int32.ofNat_add a b).symm
theorem I_mul (a b : Nat) : I a * I b = I (a * b) := (Int32.ofNat_mul a b).symm
theorem I_toInt {a : Nat} (h : a < 2 ^ 31) : (I a).toInt = a := Int32.toInt_ofNat_of_lt h
theorem I_sub {a b : Nat} (h : b ≤ a) : I a - I b = I (a - b) := by
  have e : I a = I (a - b) + I b := by
    rw [I_add]
    congr 1
    omega
  rw [e, Int32.add_sub_cancel]
theorem I_lt {a b : Nat} (ha : a < 2 ^ 31) (hb : b < 2 ^ 31) : I a < I b ↔ a < b := by
  rw [Int32.lt_iff_toInt_lt, I_toInt ha, I_toInt hb]
  omega
theorem I_eq {a b : Nat} (ha : a < 2 ^ 31) (hb : b < 2 ^ 31) : I a = I b ↔ a = b := by
  rw [← Int32.toInt_inj, I_toInt ha, I_toInt hb]
  omega
theorem I_ix {a : Nat} (h : a < 2 ^ 31) : ix (I a) = a := by
  show (I a).toNatClampNeg = a
  rw [← Int32.toNat_toInt, I_toInt h]
  rfl
theorem I_inb {a n : Nat} (h : a < 2 ^ 31) : inb (I a) n = true ↔ a < n := by
  unfold inb
  have h0 : ¬ I a < 0 := by
    rw [Int32.lt_iff_toInt_lt, I_toInt h]
    show ¬ ((a : Int) < 0)
    omega
  rw [Bool.and_eq_true, decide_eq_false h0, Nat.blt_eq]
  show (true = true ∧ ix (I a) < n) ↔ _
  rw [I_ix h]
  simp
theorem I_div {a b : Nat} (ha : a < 2 ^ 31) (hb : b < 2 ^ 31) : I a / I b = I (a / b) := by
  apply Int32.toInt_inj.mp
  have hd : a / b < 2 ^ 31 := Nat.lt_of_le_of_lt (Nat.div_le_self a b) ha
  rw [I_toInt hd, Int32.toInt_div, I_toInt ha, I_toInt hb]
  have e : (a : Int).tdiv (b : Int) = ((a / b : Nat) : Int) := by
    rw [Int.ofNat_tdiv]
  rw [e]
  generalize a / b = q at hd
  apply Int.bmod_eq_of_le <;> omega
theorem I_rem {a b : Nat} (ha : a < 2 ^ 31) (hb : b < 2 ^ 31) : iRem (I a) (I b) = I (a % b) := by
  unfold iRem
  rw [I_div ha hb, I_mul]
  have h1 : a / b * b ≤ a := Nat.div_mul_le_self a b
  rw [I_sub h1]
  congr 1
  have := Nat.div_add_mod a b
  rw [Nat.mul_comm] at this
  omega
/-! The store. -/
theorem up3_code {S : St} {x i j : Nat} {v : Int32} {y : Nat} (h : y ≠ x) : up3 S x i j v y = S y := by
  funext i' j'
  unfold up3
  cases hb : Nat.beq y x with
  | true => exact absurd (Nat.eq_of_beq_eq_true hb) h
  | false => rfl
theorem up3_same {S : St} {x i j : Nat} {v : Int32} {i' j' : Nat} : up3 S x i j v x i' j' = if i' = i ∧ j' = j then v else S x i' j' := by
  unfold up3
  rw [Nat.beq_refl]
