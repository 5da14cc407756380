/-! The start. -/
def sv (r li : Nat) (key : Int32) (x : Nat) : Int32 := match x with
  | 1 => key
  | 11 => I r
  | 12 => I li
  | 17 => I r
  | 23 => 1
  | 24 => 1
  | 1001 => I r
  | 1002 => I li
  | 1003 => key
  | _ => 0
def A0 (r li : Nat) (key : Int32) : MA := (fun _ _ => 0, fun _ _ => 0, fun _ _ => false, fun _ _ => (w0, 0, 0, 0), fun _ _ _ => false, fun _ _ => w0, fun _ => [], fun _ => [], fun i => if i = 1 then r else if i = 2 then li else 0, fun i => if i = 4 then key else 0, fun _ => [])
theorem start_RT (r li : Nat) (key : Int32) : RT (A0 r li key) (fun x _ _ => sv r li key x) := by
  have hI : ∀ q ∈ tI, sv r li key q.1 = 0 := by
    intro q hq
    simp only [tI, List.mem_cons, List.not_mem_nil, or_false] at hq
    rcases hq with rfl | rfl | rfl | rfl | rfl | rfl | rfl | rfl | rfl <;> rfl
  have hN : ∀ q ∈ tN, sv r li key q.1 = 0 := by
    intro q hq
    simp only [tN, List.mem_cons, List.not_mem_nil, or_false] at hq
    rcases hq with rfl | rfl | rfl | rfl | rfl | rfl | rfl | rfl | rfl | rfl | rfl | rfl | rfl | rfl <;> rfl
  have hB : ∀ q ∈ tB, sv r li key q.1 = 0 := by
    intro q hq
    simp only [tB, List.mem_cons, List.not_mem_nil, or_false] at hq
    rcases hq with rfl | rfl | rfl <;> rfl
  refine ⟨⟨fun q hq e he k hk => hI q hq, fun q hq e he k hk => hN q hq, fun q hq e he k hk => hB q hq⟩, ⟨rfl, rfl, rfl, rfl, fun k hk => ?_⟩, ⟨rfl, fun i x h => ?_, rfl, fun i x h => ?_⟩, fun r' hr => ⟨rfl, fun i q h => ?_⟩, fun e he n h1 h2 => ?_, fun e he n hn => ⟨rfl, rfl, fun h => ?_⟩, fun e he s hs => ⟨rfl, fun i q h => ?_⟩⟩
  · show (0 : Int32) = if k = 4 then key else 0
    rw [if_neg (by omega)]
  · cases h
  · cases h
  · cases h
  · have h2' : n ≤ 0 := h2
    have h1' : 0 < n := h1
    omega
  · cases h
  · cases h
theorem start_RS (r li : Nat) (key : Int32) : RS (A0 r li key) (fun x _ _ => sv r li key x) := by
  have he : ∀ e, e < 2 → RSe (A0 r li key) e (fun x _ _ => sv r li key x) := by
    intro e he
    refine ⟨⟨⟨⟨rfl, rfl, rfl, rfl⟩, ⟨rfl, rfl⟩, ⟨rfl, rfl, rfl⟩, ⟨fun s hs => rfl, fun s hs => rfl⟩, (by show (0 : Int32) = 0 - 0; decide)⟩, fun h3 => ?_⟩, ⟨fun n h1 h2 => ?_, ⟨fun n h1 h2 h3 => ⟨rfl, fun h => ?_⟩, fun k hk h => ?_, fun n h1 h2 => ⟨fun h => ?_, fun h => ?_⟩, fun k hk => ⟨0, Nat.zero_le _, rfl⟩⟩, ⟨rfl, rfl, fun i q h => ?_⟩⟩, ⟨⟨0, by decide, rfl, rfl, fun i q h => ?_⟩, ⟨0, by decide, rfl, rfl, fun i q h => ?_⟩⟩, rfl, rfl, rfl, fun _ => ⟨rfl, rfl, rfl, rfl⟩⟩
    · exact absurd h3 (by show ¬ (0 : Int32) = 3; decide)
    · have h2' : n ≤ 0 := h2
      have h1' : 0 < n := h1
      omega
    · cases h
    · exact absurd rfl h
    · have h' : I 0 = I n := h
      have h1' : 0 < n := h1
      have h2' : n ≤ 0 + 16 := h2
      have := (I_eq (a := 0) (b := n) (by decide) (by omega)).mp h'
      omega
    · cases h
    · cases h
    · cases h
    · cases h
  refine ⟨⟨rfl, rfl⟩, ⟨⟨rfl, fun k x h => ?_⟩, ⟨rfl, fun k x h => ?_⟩⟩, he 0 (by decide), he 1 (by decide)⟩
  · cases h
  · cases h
theorem start_K (r : Nat) {li : Nat} (key : Int32) (h1 : 1 ≤ li) (h9 : li < 100) : K (A0 r li key) 0 (fun _ _ => []) (fun _ _ _ => 0) z1 := by
  have hc1 : ∀ e, cHd (A0 r li key) e = 0 := fun e => cntN_0 (fun _ => rfl) _ _
  have hc0 : ∀ e, cHa (A0 r li key) e = 0 := fun e => cntN_0 (fun _ => rfl) _ _
  refine ⟨⟨fun e t => ⟨WF_nil, Nat.le_refl 0⟩, ⟨fun r' hr => Nat.zero_le 8, fun r' hr q h => (by cases h)⟩, ⟨Nat.le_refl 0, Nat.le_refl 0⟩, ⟨fun h => ?_, fun h => ?_⟩, ⟨Or.inl rfl, fun h => ?_⟩, fun y h => absurd rfl h, fun x h => absurd rfl h⟩, fun e he => ⟨⟨⟨⟨?_, Nat.le_refl 0, Nat.zero_le _, ?_, fun n => ?_, fun n => ?_, fun p hp => ⟨Nat.zero_le _, Nat.zero_le _⟩, ?_⟩, ⟨fun q h => (by cases h), fun s hs => Nat.zero_le _⟩, fun p hp => ?_, ?_, h9⟩, fun p hp h => (by cases h), fun h => ?_, fun n n1 n2 => ?_, rfl⟩, ⟨⟨Nat.le_refl 0, Nat.le_refl 0, fun s hs => Nat.le_refl 0⟩, ⟨fun h => ?_, ?_, h1⟩, fun k n hn => rfl, ?_, ?_, fun s hs => ?_, fun q h => (by cases h)⟩, fun h => ?_⟩⟩
  · exact absurd h (by show ¬ ((0 : Int32) = 1 ∨ (0 : Int32) = 2 ∨ (0 : Int32) = 3); decide)
  · exact absurd h (by show ¬ ((0 : Int32) = 2 ∨ (0 : Int32) = 3); decide)
  · exact absurd h (by show ¬ ((0 : Int32) = 3); decide)
  · show 0 < 2; decide
  · show 0 < 4000; decide
  · show 0 < 2; decide
  · show 0 ≤ 2; decide
  · show 0 < 4000; decide
  · show 0 < 5000; decide
  · show 0 < 100; decide
  · exact absurd h (by show ¬ ((0 : Int32) = 3); decide)
  · have n2' : n ≤ 0 := n2
    have n1' : 0 < n := n1
    omega
  · exact absurd h (by show ¬ ((0 : Int32) = 1 ∨ (0 : Int32) = 2); decide)
  · show 0 < 5000; decide
  · rw [hc0]; exact Nat.le_refl 0
  · rw [hc1]; exact Nat.le_refl 0
  · rw [hc1]; exact Nat.le_refl 0
  · exact absurd h (by show ¬ ((0 : Int32) = 3); decide)
theorem start_PR (r : Nat) {li : Nat} (key : Int32) (h1 : 1 ≤ li) (h9 : li < 100) : PR 0 (fun x _ _ => sv r li key x) (fun x _ _ => sv r li key x) := ⟨A0 r li key, _, _, start_RT r li key, start_RS r li key, start_K r key h1 h9⟩
