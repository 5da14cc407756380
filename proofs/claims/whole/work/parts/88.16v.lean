theorem P_alter {c : Nat} {S T : St} (h : PR c S T) (a b : Int32) {w : Int32} (hw : w = 0 ∨ w = 1) : st2 c (f_L_alter 0 a b w S) (f_M_alter 0 a b w T) := by
  have no : ∀ x y, x = some (0, S) → y = some (0, T) → st2 c x y := fun x y hx hy => by rw [hx, hy]; exact st2_same h 0
  rcases end_cs a with ⟨e, he, rfl⟩ | ⟨z1', z2, z3⟩
  · rcases end_cs b with ⟨p, hp, rfl⟩ | ⟨y1, y2, y3⟩
    · obtain ⟨A, G, O, hT, hS, k⟩ := h
      refine st2_mk (T_alter hT k.1.2.1.1 he hp (w := w)) (S_alter hS k.1.2.1.1 he hp hw) (G := G) (O := O) ?_
      split
      · exact K_up (Nat.le_succ c) k
      · rename_i hz
        split
        · exact K_take (K_up (Nat.le_succ c) k)
        · rename_i hw0
          exact K_dup (K_up (Nat.le_succ c) k) (fun q => hz (Or.inr ⟨hw0, q⟩))
    · refine no _ _ ?_ ?_
      · unfold f_L_alter
        rw [if_neg (isEnd_I he), if_pos y3]
        rfl
      · unfold f_M_alter
        rw [if_neg (two_I he), if_pos y1]
        rfl
  · refine no _ _ ?_ ?_
    · unfold f_L_alter
      rw [if_pos z2]
      rfl
    · unfold f_M_alter
      rw [if_pos z1']
      rfl
theorem P_forge {c : Nat} {S T : St} (h : PR c S T) (a k t v1 v2 v3 v4 : Int32) : st2 c (f_L_forge 0 a k t v1 v2 v3 v4 S) (f_M_forge 0 a k t v1 v2 v3 v4 T) := by
  rcases end_cs a with ⟨e, he, rfl⟩ | ⟨z1', z2, z3⟩
  · obtain ⟨A, G, O, hT, hS, kk⟩ := h
    obtain ⟨x, ex, hx⟩ := S_forge hS kk.1.2.1.1 he (k := k) (t := t) (a := v1) (b := v2) (c := v3) (d := v4)
    obtain ⟨y, ey, hy⟩ := T_forge hT kk.1.2.1.1 he (k := k) (t := t) (a := v1) (b := v2) (c := v3) (d := v4)
    unfold st2
    rw [ex, ey]
    rcases hx with ⟨n1, n2, n3⟩ | ⟨n1, n2, n3⟩
    · rcases hy with ⟨m1, m2, m3⟩ | ⟨m1, m2, m3⟩
      · exact .some (.some ⟨n2.trans m2.symm, A, G, O, m3, n3, K_up (Nat.le_succ c) kk⟩)
      · exact absurd n1 m1
    · rcases hy with ⟨m1, m2, m3⟩ | ⟨m1, m2, m3⟩
      · exact absurd m1 n1
      · exact .some (.some ⟨n2.trans m2.symm, _, G, O, m3, n3, K_forge (K_up (Nat.le_succ c) kk) n1⟩)
  · have e1 : f_L_forge 0 a k t v1 v2 v3 v4 S = some (0, S) := by
      unfold f_L_forge
      rw [if_pos z2]
      rfl
    have e2 : f_M_forge 0 a k t v1 v2 v3 v4 T = some (0, T) := by
      unfold f_M_forge
      rw [if_pos z1']
      rfl
    rw [e1, e2]
    exact st2_same h 0
theorem P_tick {c : Nat} {S T : St} (h : PR c S T) (hc : c ≤ 511) : st2 c (f_L_tick 0 S) (f_M_tick 0 T) := by
  obtain ⟨A, G, O, hT, hS, k⟩ := h
  obtain ⟨k0, k1⟩ := K_tick k (by omega)
  obtain ⟨v0, ec0, _⟩ := k.2 0 (by decide)
  obtain ⟨v1, ec1, _⟩ := k.2 1 (by decide)
  have hb : ∀ e, e < 2 → bTk (uGN A (up1 (gN A) 0 (gN A 0 + 1))) e := by
    intro e he
    obtain ⟨⟨a1, a2, a3⟩, ⟨b1, ⟨b2, b3, b4⟩, b5, b6⟩, _⟩ := k0.2 e he
    refine ⟨a1, b5, fun hr => (a2 0 (by decide) hr).2, fun hr => (a2 1 (by decide) hr).2, fun hs => b2 hs, b3, fun hs => ?_⟩
    have hcn := k0.1.2.2.2.2.1.1
    apply Classical.byContradiction
    intro hz
    have : e = 1 := by omega
    subst this
    rw [hs] at hcn
    exact absurd hcn (by decide)
  have hn := ec0.1.1
  exact st2_mk (T_tick hT k.1.2.1.1 v0.1 v1.1 (by omega) ec0.2.1.2.1 ec1.2.1.2.1) (S_tick hS k.1.2.1.1 (hb 0 (by decide)) (hb 1 (by decide))) k1
theorem P_read {c : Nat} {S T : St} (h : PR c S T) (hc : c ≤ 511) (a b : Int32) : st2 c (f_L_read 0 a b S) (f_M_read 0 a b T) := by
  have no : ∀ r x y, x = some (r, S) → y = some (r, T) → st2 c x y := fun r x y hx hy => by rw [hx, hy]; exact st2_same h r
  rcases end_cs a with ⟨e, he, rfl⟩ | ⟨z1', z2, z3⟩
  · rcases str_cs b with ⟨s, hs, rfl⟩ | ⟨y1, y2, y3⟩
    · obtain ⟨A, G, O, hT, hS, k⟩ := h
      obtain ⟨v, ec, _⟩ := k.2 e he
      obtain ⟨q1, q2, q3⟩ := ec.2.2.2.2
      have := q2 s hs
      exact st2_mk (T_read hT he hs (by omega)) (S_read hS he hs (by omega) q3) (K_pop (K_up (Nat.le_succ c) k) he hs)
    · refine no 0 _ _ ?_ ?_
      · unfold f_L_read
        rw [if_neg (isEnd_I he), if_pos y2]
        rfl
      · unfold f_M_read
        rw [if_neg (two_I he), if_pos y1]
        rfl
  · refine no 0 _ _ ?_ ?_
    · unfold f_L_read
      rw [if_pos z2]
      rfl
    · unfold f_M_read
      rw [if_pos z1']
      rfl
theorem P_abort {c : Nat} {S T : St} (h : PR c S T) (a : Int32) : st2 c (f_L_abort 0 a S) (f_M_abort 0 a T) := by
  rcases end_cs a with ⟨e, he, rfl⟩ | ⟨z1', z2, z3⟩
  · obtain ⟨A, G, O, hT, hS, k⟩ := h
    obtain ⟨v, ec, _⟩ := k.2 e he
    refine st2_mk (T_abort hT k.1.2.1.1 he v.1.2.1 v.1.1.1) (S_abort hS k.1.2.1.1 he v.1.1.1 ec.2.2.1) (G := G) (O := O) ?_
    split
    · exact K_up (Nat.le_succ c) k
    · exact K_abort (K_up (Nat.le_succ c) k) he
  · have e1 : f_L_abort 0 a S = some (0, S) := by
      unfold f_L_abort
      rw [if_pos z2]
      rfl
    have e2 : f_M_abort 0 a T = some (0, T) := by
      unfold f_M_abort
      rw [if_pos z1']
      rfl
    rw [e1, e2]
    exact st2_same h 0
theorem P_primary {c : Nat} {S T : St} (h : PR c S T) (a b : Int32) : st2 c (f_L_primary 0 a b S) (f_M_primary 0 a b T) := by
  have no : ∀ x y, x = some (0, S) → y = some (0, T) → st2 c x y := fun x y hx hy => by rw [hx, hy]; exact st2_same h 0
  rcases end_cs a with ⟨e, he, rfl⟩ | ⟨z1', z2, z3⟩
  · rcases end_cs b with ⟨p, hp, rfl⟩ | ⟨y1, y2, y3⟩
    · obtain ⟨A, G, O, hT, hS, k⟩ := h
      refine st2_mk (T_primary hT he hp) (S_primary hS he hp) (G := G) (O := O) ?_
      split
      · exact K_primary (K_up (Nat.le_succ c) k) he hp
      · exact K_up (Nat.le_succ c) k
    · refine no _ _ ?_ ?_
      · unfold f_L_primary
        rw [if_neg (isEnd_I he), if_pos y3]
        rfl
      · unfold f_M_primary
        rw [if_neg (two_I he), if_pos y1]
        rfl
  · refine no _ _ ?_ ?_
    · unfold f_L_primary
      rw [if_pos z2]
      rfl
    · unfold f_M_primary
      rw [if_pos z1']
      rfl
/-- a question: both answer, and the same -/
def qu2 (a b : Option Int32) : Prop := ∃ r, a = some r ∧ b = some r
theorem P_ready {c : Nat} {S T : St} (h : PR c S T) (hc : c ≤ 511) (a b : Int32) : qu2 (f_L_ready 0 a b S) (f_M_ready 0 a b T) := by
  rcases end_cs a with ⟨e, he, rfl⟩ | ⟨z1', z2, z3⟩
  · rcases str_cs b with ⟨s, hs, rfl⟩ | ⟨y1, y2, y3⟩
    · obtain ⟨A, G, O, hT, hS, k⟩ := h
      obtain ⟨q1, q2, q3⟩ := (k.2 e he).2.1.2.2.2.2
      exact ⟨_, S_readyq hS he hs (by omega) q3, T_readyq hT he hs⟩
    · refine ⟨-1, ?_, ?_⟩
      · unfold f_L_ready
        rw [if_neg (isEnd_I he), if_pos y2]
        rfl
      · unfold f_M_ready
        rw [if_neg (two_I he), if_pos y1]
        rfl
  · refine ⟨-1, ?_, ?_⟩
    · unfold f_L_ready
      rw [if_pos z2]
      rfl
    · unfold f_M_ready
      rw [if_pos z1']
      rfl
theorem P_length {c : Nat} {S T : St} (h : PR c S T) (hc : c ≤ 511) (a b : Int32) : qu2 (f_L_length 0 a b S) (f_M_length 0 a b T) := by
  rcases end_cs a with ⟨e, he, rfl⟩ | ⟨z1', z2, z3⟩
  · rcases str_cs b with ⟨s, hs, rfl⟩ | ⟨y1, y2, y3⟩
    · obtain ⟨A, G, O, hT, hS, k⟩ := h
      obtain ⟨q1, q2, q3⟩ := (k.2 e he).2.1.2.2.2.2
      have := q2 s hs
      exact ⟨_, S_lenq hS he hs (by omega) q3, T_lenq hT he hs (by omega)⟩
    · refine ⟨0, ?_, ?_⟩
      · unfold f_L_length
        rw [if_neg (isEnd_I he), if_pos y2]
        rfl
      · unfold f_M_length
        rw [if_neg (two_I he), if_pos y1]
        rfl
  · refine ⟨0, ?_, ?_⟩
    · unfold f_L_length
      rw [if_pos z2]
      rfl
    · unfold f_M_length
      rw [if_pos z1']
      rfl
theorem P_about {c : Nat} {S T : St} (h : PR c S T) (a b : Int32) : qu2 (f_L_about 0 a b S) (f_M_about 0 a b T) := by
  rcases end_cs a with ⟨e, he, rfl⟩ | ⟨z1', z2, z3⟩
  · obtain ⟨A, G, O, hT, hS, k⟩ := h
    have hb := (k.2 e he).1.1.1
    by_cases h0 : b < 0
    · refine ⟨-1, S_aboutN he (Or.inl h0), ?_⟩
      unfold f_M_about
      rw [if_neg (two_I he), if_pos h0]
      rfl
    · by_cases h9 : (9 : Int32) < b
      · refine ⟨-1, S_aboutN he (Or.inr h9), ?_⟩
        unfold f_M_about
        rw [if_neg (two_I he), if_neg h0, if_pos h9]
        rfl
      · obtain ⟨j, hj, rfl⟩ := I_range (b := 9) (by decide) h0 h9
        exact ⟨_, S_about hS he hb hj, T_about hT he hj hb⟩
  · refine ⟨-1, ?_, ?_⟩
    · unfold f_L_about
      rw [if_pos z2]
    · unfold f_M_about
      rw [if_pos z1']
      rfl
theorem P_path {c : Nat} {S T : St} (h : PR c S T) (a b d : Int32) : qu2 (f_L_path 0 a b d S) (f_M_path 0 a b d T) := by
  rcases end_cs a with ⟨e, he, rfl⟩ | ⟨z1', z2, z3⟩
  · rcases end_cs b with ⟨p, hp, rfl⟩ | ⟨y1, y2, y3⟩
    · obtain ⟨A, G, O, hT, hS, k⟩ := h
      have hb := (k.2 e he).1.1.1
      by_cases h0 : d < 0
      · refine ⟨-1, S_pathN he hp (Or.inl h0), ?_⟩
        unfold f_M_path
        rw [if_neg (two_I he), if_neg (two_I hp), if_pos h0]
        rfl
      · by_cases h9 : (6 : Int32) < d
        · refine ⟨-1, S_pathN he hp (Or.inr h9), ?_⟩
          unfold f_M_path
          rw [if_neg (two_I he), if_neg (two_I hp), if_neg h0, if_pos h9]
          rfl
        · obtain ⟨j, hj, rfl⟩ := I_range (b := 6) (by decide) h0 h9
          exact ⟨_, S_pathq hS he hp hb hj, T_pathq hT he hp hj hb⟩
    · refine ⟨-1, ?_, ?_⟩
      · unfold f_L_path
        rw [if_neg (isEnd_I he), if_pos y3]
        rfl
      · unfold f_M_path
        rw [if_neg (two_I he), if_pos y1]
        rfl
  · refine ⟨-1, ?_, ?_⟩
    · unfold f_L_path
      rw [if_pos z2]
      rfl
    · unfold f_M_path
      rw [if_pos z1']
      rfl
theorem P_waiting {c : Nat} {S T : St} (h : PR c S T) (a b : Int32) : qu2 (f_L_waiting 0 a b S) (f_M_waiting 0 a b T) := by
  rcases end_cs a with ⟨e, he, rfl⟩ | ⟨z1', z2, z3⟩
  · rcases end_cs b with ⟨p, hp, rfl⟩ | ⟨y1, y2, y3⟩
    · obtain ⟨A, G, O, hT, hS, k⟩ := h
      exact ⟨_, S_waiting hS he hp, T_waiting hT he hp⟩
    · refine ⟨-1, ?_, ?_⟩
      · unfold f_L_waiting
        rw [if_neg (isEnd_I he), if_pos y3]
        rfl
      · unfold f_M_waiting
        rw [if_neg (two_I he), if_pos y1]
        rfl
  · refine ⟨-1, ?_, ?_⟩
    · unfold f_L_waiting
      rw [if_pos z2]
      rfl
    · unfold f_M_waiting
      rw [if_pos z1']
      rfl
theorem P_word {c : Nat} {S T : St} (h : PR c S T) (a b : Int32) : qu2 (f_L_word 0 a b S) (f_M_word 0 a b T) := by
  rcases end_cs a with ⟨e, he, rfl⟩ | ⟨z1', z2, z3⟩
  · obtain ⟨A, G, O, hT, hS, k⟩ := h
    have hb := (k.2 e he).1.1.1
    exact ⟨_, S_wordq hS he hb, T_wordq hT he hb⟩
  · refine ⟨0, ?_, ?_⟩
    · unfold f_L_word
      rw [if_pos z2]
    · unfold f_M_word
      rw [if_pos z1']
      rfl
