/-! The middle model: what class and reference both stand for. A word: value, stream, order, first, last, unordered. A sent word: the word, state, path, strikes. A packet: its eight ints, and for a data packet its number and word. -/
abbrev WC : Type := Int32 × Nat × Nat × Bool × Bool × Bool
abbrev OW : Type := WC × Int32 × Nat × Nat
abbrev Pkt : Type := (Nat → Int32) × Nat × WC
abbrev RM : Type := Nat × Int32 × Nat
abbrev MA : Type := (Nat → Nat → Int32) × (Nat → Nat → Nat) × (Nat → Nat → Bool) × (Nat → Nat → OW) × (Nat → Nat → Nat → Bool) × (Nat → Nat → WC) × (Nat → List RM) × (Nat → List Pkt) × (Nat → Nat) × (Nat → Int32) × (Nat → List Int32)
/-- of an end: 0 state, 1 own, 2 other, 3 report, 4 all errors, 5 window, 6 errors (2), 8 beat (2), 10 kept -/
abbrev aI (A : MA) : Nat → Nat → Int32 := A.1
/-- of an end: 0 tries, 1 due, 2 primary, 3 gone, 4 given, 5 latest, 7 rate (2), 9 wait (2), 11 timer (2), 13 orders (3), 16 next orders (3), 19 read (3), 22 latest sack, 23 readies (3) -/
abbrev aN (A : MA) : Nat → Nat → Nat := A.2.1
/-- of an end: 0 active (2), 2 runs (2), 4 beating (2) -/
abbrev aB (A : MA) : Nat → Nat → Bool := A.2.2.1
abbrev aO (A : MA) : Nat → Nat → OW := A.2.2.2.1
/-- of an end: 0 had, 1 held -/
abbrev aH (A : MA) : Nat → Nat → Nat → Bool := A.2.2.2.2.1
abbrev aW (A : MA) : Nat → Nat → WC := A.2.2.2.2.2.1
abbrev aR (A : MA) : Nat → List RM := A.2.2.2.2.2.2.1
abbrev aP (A : MA) : Nat → List Pkt := A.2.2.2.2.2.2.2.1
/-- 0 now, 1 room, 2 limit -/
abbrev gN (A : MA) : Nat → Nat := A.2.2.2.2.2.2.2.2.1
/-- 0 .. 3 the client's cookie, 4 key -/
abbrev gI (A : MA) : Nat → Int32 := A.2.2.2.2.2.2.2.2.2.1
/-- 0 opened, 1 served -/
abbrev gT (A : MA) : Nat → List Int32 := A.2.2.2.2.2.2.2.2.2.2
abbrev uI (A : MA) (f : Nat → Nat → Int32) : MA := (f, A.2)
abbrev uN (A : MA) (f : Nat → Nat → Nat) : MA := (A.1, f, A.2.2)
abbrev uB (A : MA) (f : Nat → Nat → Bool) : MA := (A.1, A.2.1, f, A.2.2.2)
abbrev uO (A : MA) (f : Nat → Nat → OW) : MA := (A.1, A.2.1, A.2.2.1, f, A.2.2.2.2)
abbrev uH (A : MA) (f : Nat → Nat → Nat → Bool) : MA := (A.1, A.2.1, A.2.2.1, A.2.2.2.1, f, A.2.2.2.2.2)
abbrev uW (A : MA) (f : Nat → Nat → WC) : MA := (A.1, A.2.1, A.2.2.1, A.2.2.2.1, A.2.2.2.2.1, f, A.2.2.2.2.2.2)
abbrev uR (A : MA) (f : Nat → List RM) : MA := (A.1, A.2.1, A.2.2.1, A.2.2.2.1, A.2.2.2.2.1, A.2.2.2.2.2.1, f, A.2.2.2.2.2.2.2)
abbrev uP (A : MA) (f : Nat → List Pkt) : MA := (A.1, A.2.1, A.2.2.1, A.2.2.2.1, A.2.2.2.2.1, A.2.2.2.2.2.1, A.2.2.2.2.2.2.1, f, A.2.2.2.2.2.2.2.2)
abbrev uGN (A : MA) (f : Nat → Nat) : MA := (A.1, A.2.1, A.2.2.1, A.2.2.2.1, A.2.2.2.2.1, A.2.2.2.2.2.1, A.2.2.2.2.2.2.1, A.2.2.2.2.2.2.2.1, f, A.2.2.2.2.2.2.2.2.2)
abbrev uGI (A : MA) (f : Nat → Int32) : MA := (A.1, A.2.1, A.2.2.1, A.2.2.2.1, A.2.2.2.2.1, A.2.2.2.2.2.1, A.2.2.2.2.2.2.1, A.2.2.2.2.2.2.2.1, A.2.2.2.2.2.2.2.2.1, f, A.2.2.2.2.2.2.2.2.2.2)
abbrev uGT (A : MA) (f : Nat → List Int32) : MA := (A.1, A.2.1, A.2.2.1, A.2.2.2.1, A.2.2.2.2.1, A.2.2.2.2.2.1, A.2.2.2.2.2.2.1, A.2.2.2.2.2.2.2.1, A.2.2.2.2.2.2.2.2.1, A.2.2.2.2.2.2.2.2.2.1, f)
def up1 {α : Type} (f : Nat → α) (i : Nat) (v : α) : Nat → α := fun j => if j = i then v else f j
def up2 {α : Type} (f : Nat → Nat → α) (i j : Nat) (v : α) : Nat → Nat → α := fun i' j' => if i' = i ∧ j' = j then v else f i' j'
abbrev sI (A : MA) (e i : Nat) (v : Int32) : MA := uI A (up2 (aI A) e i v)
abbrev sN (A : MA) (e i v : Nat) : MA := uN A (up2 (aN A) e i v)
abbrev sB (A : MA) (e i : Nat) (v : Bool) : MA := uB A (up2 (aB A) e i v)
theorem up1_eq {α : Type} {f : Nat → α} {i : Nat} {v : α} : up1 f i v i = v := if_pos rfl
theorem up1_ne {α : Type} {f : Nat → α} {i j : Nat} {v : α} (h : j ≠ i) : up1 f i v j = f j := if_neg h
theorem up2_eq {α : Type} {f : Nat → Nat → α} {i j : Nat} {v : α} : up2 f i j v i j = v := if_pos ⟨rfl, rfl⟩
theorem up2_ne1 {α : Type} {f : Nat → Nat → α} {i j i' j' : Nat} {v : α} (h : i' ≠ i) : up2 f i j v i' j' = f i' j' := if_neg (fun q => h q.1)
theorem up2_ne2 {α : Type} {f : Nat → Nat → α} {i j i' j' : Nat} {v : α} (h : j' ≠ j) : up2 f i j v i' j' = f i' j' := if_neg (fun q => h q.2)
def b01 (b : Bool) : Int32 := match b with
  | true => 1
  | false => 0
theorem b01_nz (b : Bool) : nz (b01 b) = b01 b := by cases b <;> rfl
theorem b01_0 (b : Bool) : b01 b = 0 ↔ b = false := by cases b <;> decide
def fl3 (a b c : Bool) : Int32 := (match a with | true => (1 : Int32) | false => 0) + (match b with | true => (2 : Int32) | false => 0) + (match c with | true => (4 : Int32) | false => 0)
def wfl (w : WC) : Int32 := fl3 w.2.2.2.1 w.2.2.2.2.1 w.2.2.2.2.2
def P8 (t k a b c d e : Int32) (j : Nat) : Int32 := match j with
  | 0 => t
  | 1 => k
  | 2 => a
  | 3 => b
  | 4 => c
  | 5 => d
  | 6 => e
  | _ => 0
def w0 : WC := (0, 0, 0, false, false, false)
abbrev pkt (t k a b c d e : Int32) : Pkt := (P8 t k a b c d e, 0, w0)
abbrev pdat (t : Int32) (n : Nat) (w : WC) : Pkt := (P8 t 4 (I n) w.1 (I w.2.1) (I w.2.2.1) (wfl w), n, w)
/-! The reference's scalars by tables: code, how many to an end, index in the model. -/
def tI : List (Nat × Nat × Nat) := [(1008, 1, 0), (1009, 1, 1), (1010, 1, 2), (1011, 1, 3), (1020, 1, 4), (1021, 1, 5), (1025, 2, 6), (1029, 2, 8), (1050, 1, 10)]
def tN : List (Nat × Nat × Nat) := [(1017, 1, 0), (1018, 1, 1), (1019, 1, 2), (1031, 1, 3), (1032, 1, 4), (1042, 1, 5), (1023, 2, 7), (1024, 2, 9), (1027, 2, 11), (1033, 3, 13), (1049, 3, 16), (1052, 3, 19), (1041, 1, 22), (1051, 3, 23)]
def tB : List (Nat × Nat × Nat) := [(1022, 2, 0), (1026, 2, 2), (1028, 2, 4)]
def tOK (L : List (Nat × Nat × Nat)) : Bool := L.all (fun q => Nat.blt 0 q.2.1 && L.all (fun q' => (Nat.beq q.1 q'.1 && (Nat.beq q.2.1 q'.2.1 && Nat.beq q.2.2 q'.2.2)) || (!Nat.beq q.1 q'.1 && (Nat.ble (q.2.2 + q.2.1) q'.2.2 || Nat.ble (q'.2.2 + q'.2.1) q.2.2))))
theorem tI_ok : tOK tI = true := by decide
theorem tN_ok : tOK tN = true := by decide
theorem tB_ok : tOK tB = true := by decide
theorem tOK_at {L : List (Nat × Nat × Nat)} (h : tOK L = true) {q q' : Nat × Nat × Nat} (h1 : q ∈ L) (h2 : q' ∈ L) : q = q' ∨ (q.1 ≠ q'.1 ∧ ∀ k k', k < q.2.1 → k' < q'.2.1 → q'.2.2 + k' ≠ q.2.2 + k) := by
  have := List.all_eq_true.mp h q h1
  rw [Bool.and_eq_true] at this
  have := List.all_eq_true.mp this.2 q' h2
  simp only [Bool.or_eq_true, Bool.and_eq_true, Nat.beq_eq, Nat.ble_eq, Bool.not_eq_true'] at this
  obtain ⟨a, b, c⟩ := q
  obtain ⟨a', b', c'⟩ := q'
  dsimp only at *
  rcases this with ⟨rfl, rfl, rfl⟩ | ⟨h3, h4⟩
  · exact Or.inl rfl
  · refine Or.inr ⟨fun q => (by subst q; rw [Nat.beq_refl] at h3; cases h3), fun k k' hk hk' => ?_⟩
    rcases h4 with h4 | h4 <;> omega
theorem pl_inj {n e k e' k' : Nat} (hk : k < n) (hk' : k' < n) (h : n * e' + k' = n * e + k) : e' = e ∧ k' = k := by
  have h1 : (n * e' + k') / n = e' := by rw [Nat.mul_add_div (by omega), Nat.div_eq_of_lt hk', Nat.add_zero]
  have h2 : (n * e + k) / n = e := by rw [Nat.mul_add_div (by omega), Nat.div_eq_of_lt hk, Nat.add_zero]
  have h3 : e' = e := by rw [← h1, ← h2, h]
  subst h3
  exact ⟨rfl, by omega⟩
/-- a family of scalars lies in the store -/
def famT (L : List (Nat × Nat × Nat)) (f : Nat → Nat → Int32) (T : St) : Prop := ∀ q ∈ L, ∀ e, e < 2 → ∀ k, k < q.2.1 → T q.1 0 (q.2.1 * e + k) = f e (q.2.2 + k)
theorem famT_set {L : List (Nat × Nat × Nat)} (hL : tOK L = true) {f : Nat → Nat → Int32} {T : St} (h : famT L f T) {q : Nat × Nat × Nat} (hq : q ∈ L) {e k : Nat} (hk : k < q.2.1) {v : Int32} : famT L (up2 f e (q.2.2 + k) v) (up3 T q.1 0 (q.2.1 * e + k) v) := by
  intro q' hq' e' he' k' hk'
  rcases tOK_at hL hq hq' with rfl | ⟨h1, h2⟩
  · rw [up3_same]
    by_cases hc : e' = e ∧ k' = k
    · obtain ⟨rfl, rfl⟩ := hc
      rw [if_pos ⟨rfl, rfl⟩, up2_eq]
    · rw [if_neg (fun h3 => hc (pl_inj hk hk' h3.2)), h q hq e' he' k' hk']
      unfold up2
      rw [if_neg (fun h3 => hc ⟨h3.1, by have := h3.2; omega⟩)]
  · rw [up3_code (fun h3 => h1 h3.symm), h q' hq' e' he' k' hk', up2_ne2 (h2 k k' hk hk')]
theorem famT_code {L : List (Nat × Nat × Nat)} {f : Nat → Nat → Int32} {T T' : St} (h : famT L f T) (hc : ∀ q ∈ L, T' q.1 = T q.1) : famT L f T' := by
  intro q hq e he k hk
  rw [hc q hq]
  exact h q hq e he k hk
