theorem clampI {hi v : Int32} {h : Nat} (hh : hi = I h) (h2 : 2 ≤ h) (hb : h < 100) : ∃ n, 2 ≤ n ∧ n ≤ h ∧ f_Math_max 2 (f_Math_min hi v) = I n := by
  have e2 : (2 : Int32).toInt = 2 := by decide
  have eh : hi.toInt = h := by rw [hh]; exact I_toInt (by omega)
  have h0 : ¬ f_Math_max 2 (f_Math_min hi v) < 0 := by
    unfold f_Math_max
    rw [Int32.lt_iff_toInt_lt]
    have e0 : (0 : Int32).toInt = 0 := by decide
    split
    · rename_i hz
      rw [Int32.lt_iff_toInt_lt] at hz
      omega
    · omega
  have h1 : ¬ I h < f_Math_max 2 (f_Math_min hi v) := by
    have hm : (f_Math_min hi v).toInt ≤ hi.toInt := by
      unfold f_Math_min
      by_cases a : v < hi
      · rw [if_pos a]
        rw [Int32.lt_iff_toInt_lt] at a
        omega
      · rw [if_neg a]
        omega
    unfold f_Math_max
    rw [Int32.lt_iff_toInt_lt, ← hh]
    by_cases b : 2 < f_Math_min hi v
    · rw [if_pos b]
      omega
    · rw [if_neg b]
      omega
  have h3 : ¬ (f_Math_max 2 (f_Math_min hi v)).toInt < 2 := by
    unfold f_Math_max
    split
    · rename_i hz
      rw [Int32.lt_iff_toInt_lt] at hz
      omega
    · omega
  obtain ⟨n, hn, hz⟩ := I_range (by omega) h0 h1
  rw [hz, I_toInt (by omega)] at h3
  exact ⟨n, by omega, hn, hz⟩
theorem S0_sv {r li : Nat} {c0 c1 c2 : Int32} (hr : f_Math_max 2 (f_Math_min 16 c0) = I r) (hl : f_Math_max 2 (f_Math_min 9 c1) = I li) : S0 (rhS c0 c1 c2) = fun x _ _ => sv r li c2 x := by
  funext x i j
  unfold S0 sv s0V
  split
  · rfl
  · exact hr
  · exact hl
  · exact hr
  · rfl
  · rfl
  · exact hr
  · exact hl
  · rfl
  · split
    all_goals first | rfl | (exfalso; simp_all; done)
theorem pure_all {L : Nat} {xs : Nat → Int32} (hL : L ≤ 4099) (c0 c1 c2 : Int32) : ∃ S' T', f_Law_law_48 (L, xs) 0 0 0 (3, S0 (rhS c0 c1 c2), S0 (rhS c0 c1 c2)) = some (1, S', T') := by
  obtain ⟨r, _, _, hr⟩ := clampI (hi := 16) (v := c0) (h := 16) rfl (by decide) (by decide)
  obtain ⟨li, h2, h9, hl⟩ := clampI (hi := 9) (v := c1) (h := 9) rfl (by decide) (by decide)
  rw [S0_sv hr hl]
  exact law_pure hL (start_PR r c2 (by omega) (by omega))
theorem whole_start {p : Program} {e : Env} {s : State} {m : MethodId} {below : List Frame} {meth : Method} {c : Code} (l : Launch) {b L : Nat} {xs : Nat → Int32} (hL : L ≤ 4099) (C0 : lw_At p s m meth c b L xs) : W p l e room_1 s m #[Value.ref b] below meth c s.heap [] 0 0 (lw_Z below #[Value.ref b] s) (entryFrame m ([Value.ref b] : List Value).toArray 4) := law_start l hL C0 (pure_all hL _ _ _)
