/-! Methods as functions on the store, printed by a program. -/
-- L_about
def f_L_about (u : Nat) (a1 : Int32) (a2 : Int32) (S : St) : Option (Int32) :=
  if (f_L_isEnd a1) = 0 then some (-1 : Int32) else (if inb a1 2 = true then bd (f_End_tell (ix a1) a2 S) (fun r203 => some r203) else none)
theorem t_L_about (scr : Nat × (Nat → Int32)) (u : Nat) (a1 : Int32) (a2 : Int32) (S T : St) {x : Int32} {o : Option iV × SS} (hx : f_L_about u a1 a2 S = some x) (hG : (some (vI x), (S, T)) = o) : E0 scr 3 13 [vR 0 u, vI a1, vI a2] (S, T) o := by
  refine ev_meth (ls := [some (vR 0 u), some (vI a1), some (vI a2)]) rfl rfl rfl ?_
  unfold f_L_about at hx
  refine ev_steps 1 (c' := (1, [some (vR 0 u), some (vI a1), some (vI a2)], [vI a1])) (h' := (S, T)) rfl ?_
  refine ev_call rfl rfl rfl rfl rfl rfl rfl rfl rfl ((t_L_isEnd scr a1 S T rfl).mono (by decide)) ?_
  refine ev_steps 0 (c' := (4, [some (vR 0 u), some (vI a1), some (vI a2)], [vI (f_L_isEnd a1)])) (h' := (S, T)) rfl ?_
  refine ev_if_eq rfl (fun hc => ?_) (fun hc => ?_)
  · rw [if_pos hc] at hx
    refine ev_steps 1 (c' := (21, [some (vR 0 u), some (vI a1), some (vI a2)], [vI (-1 : Int32)])) (h' := (S, T)) rfl ?_
    cases hx
    subst hG
    exact ev_ret rfl rfl
  · rw [if_neg hc] at hx
    refine ev_steps 3 (c' := (12, [some (vR 0 u), some (vI a1), some (vI a2)], [vI a1, vR 64 u])) (h' := (S, T)) rfl ?_
    obtain ⟨hg, hx⟩ := ifg hx
    refine ev_aald2 rfl rfl hg ?_
    refine ev_steps 1 (c' := (14, [some (vR 0 u), some (vI a1), some (vI a2)], [vI a2, vR 3 (ix a1)])) (h' := (S, T)) rfl ?_
    obtain ⟨r203, hc, hx⟩ := bd_some hx
    refine ev_call rfl rfl rfl rfl rfl rfl rfl rfl rfl ((t_End_tell scr (ix a1) a2 S T hc rfl).mono (by decide)) ?_
    refine ev_steps 1 (c' := (21, [some (vR 0 u), some (vI a1), some (vI a2)], [vI r203])) (h' := (S, T)) rfl ?_
    cases hx
    subst hG
    exact ev_ret rfl rfl
-- End_tellOfPath
def f_End_tellOfPath_10 (S : St) : Option (Int32) :=
  some (-1 : Int32)
theorem t_End_tellOfPath_10 (scr : Nat × (Nat → Int32)) (S : St) (T : St) (d0 d1 d2 d3 : Option iV) {x : Int32} {o : Option iV × SS} (hx : f_End_tellOfPath_10 S = some x) (hG : (fun x => (some (vI x), (S, T)) = o) x) : EB scr 3 3 1 cd_End_tellOfPath (10, [d0, d1, d2, d3], []) (S, T) o := by
  unfold f_End_tellOfPath_10 at hx
  try dsimp only at hG
  refine ev_steps 1 (c' := (11, [_, _, _, _], [vI (-1 : Int32)])) (h' := (S, T)) rfl ?_
  cases hx
  subst hG
  exact ev_ret rfl rfl
def f_End_tellOfPath (u : Nat) (a1 : Int32) (a2 : Int32) (S : St) : Option (Int32) :=
  if a2 < 0 then f_End_tellOfPath_10 S else (if (6 : Int32) < a2 then f_End_tellOfPath_10 S else (if (S cEnd_state u 0) = (3 : Int32) then (if inb a1 2 = true then if a2 = (0 : Int32) then some (S cPath_rate (2 * u + ix a1) 0) else (if a2 = (1 : Int32) then some (S cPath_wait (2 * u + ix a1) 0) else (if a2 = (2 : Int32) then some (S cPath_errors (2 * u + ix a1) 0) else (if a2 = (3 : Int32) then (if (nz (S cPath_active (2 * u + ix a1) 0)) = 0 then some (0 : Int32) else some (1 : Int32)) else (if a2 = (4 : Int32) then (bd (f_Outbox_countOut u a1 S) (fun r205 => some r205)) else (if a2 = (5 : Int32) then (if (nz (S cPath_timerRuns (2 * u + ix a1) 0)) = 0 then some (0 : Int32) else some (1 : Int32)) else (if (nz (S cPath_beatOpen (2 * u + ix a1) 0)) = 0 then some (0 : Int32) else some (1 : Int32))))))) else none) else some (0 : Int32)))
theorem t_End_tellOfPath (scr : Nat × (Nat → Int32)) (u : Nat) (a1 : Int32) (a2 : Int32) (S T : St) {x : Int32} {o : Option iV × SS} (hx : f_End_tellOfPath u a1 a2 S = some x) (hG : (some (vI x), (S, T)) = o) : E0 scr 4 90 [vR 3 u, vI a1, vI a2] (S, T) o := by
  refine ev_meth (ls := [some (vR 3 u), some (vI a1), some (vI a2), none]) rfl rfl rfl ?_
  unfold f_End_tellOfPath at hx
  refine ev_steps 1 (c' := (1, [some (vR 3 u), some (vI a1), some (vI a2), none], [vI a2])) (h' := (S, T)) rfl ?_
  refine ev_if_lt rfl (fun hc => ?_) (fun hc => ?_)
  · rw [if_pos hc] at hx
    exact t_End_tellOfPath_10 scr S T _ _ _ _ hx hG
  · rw [if_neg hc] at hx
    refine ev_steps 2 (c' := (7, [some (vR 3 u), some (vI a1), some (vI a2), none], [vI (6 : Int32), vI a2])) (h' := (S, T)) rfl ?_
    refine ev_icmp_le rfl (fun hc => ?_) (fun hc => ?_)
    · rw [if_pos hc] at hx
      exact t_End_tellOfPath_10 scr S T _ _ _ _ hx hG
    · rw [if_neg hc] at hx
      refine ev_steps 3 (c' := (17, [some (vR 3 u), some (vI a1), some (vI a2), none], [vI (3 : Int32), vI (S cEnd_state u 0)])) (h' := (S, T)) rfl ?_
      refine ev_icmp_eq rfl (fun hc => ?_) (fun hc => ?_)
      · rw [if_pos hc] at hx
        refine ev_steps 3 (c' := (27, [some (vR 3 u), some (vI a1), some (vI a2), none], [vI a1, vR 67 u])) (h' := (S, T)) rfl ?_
        obtain ⟨hg, hx⟩ := ifg hx
        refine ev_aald3 rfl rfl hg ?_
        refine ev_steps 2 (c' := (30, [some (vR 3 u), some (vI a1), some (vI a2), some (vR 7 (2 * u + ix a1))], [vI a2])) (h' := (S, T)) rfl ?_
        by_cases hc : a2 = (0 : Int32)
        · rw [if_pos hc] at hx
          refine ev_swk (t := 68) rfl hc (by decide) ?_
          refine ev_steps 2 (c' := (72, [some (vR 3 u), some (vI a1), some (vI a2), some (vR 7 (2 * u + ix a1))], [vI (S cPath_rate (2 * u + ix a1) 0)])) (h' := (S, T)) rfl ?_
          cases hx
          subst hG
          exact ev_ret rfl rfl
        rw [if_neg hc] at hx
        have hn0 := hc
        clear hc
        by_cases hc : a2 = (1 : Int32)
        · rw [if_pos hc] at hx
          refine ev_swk (t := 73) rfl hc (by decide) ?_
          refine ev_steps 2 (c' := (77, [some (vR 3 u), some (vI a1), some (vI a2), some (vR 7 (2 * u + ix a1))], [vI (S cPath_wait (2 * u + ix a1) 0)])) (h' := (S, T)) rfl ?_
          cases hx
          subst hG
          exact ev_ret rfl rfl
        rw [if_neg hc] at hx
        have hn1 := hc
        clear hc
        by_cases hc : a2 = (2 : Int32)
        · rw [if_pos hc] at hx
          refine ev_swk (t := 78) rfl hc (by decide) ?_
          refine ev_steps 2 (c' := (82, [some (vR 3 u), some (vI a1), some (vI a2), some (vR 7 (2 * u + ix a1))], [vI (S cPath_errors (2 * u + ix a1) 0)])) (h' := (S, T)) rfl ?_
          cases hx
          subst hG
          exact ev_ret rfl rfl
        rw [if_neg hc] at hx
        have hn2 := hc
        clear hc
        by_cases hc : a2 = (3 : Int32)
        · rw [if_pos hc] at hx
          refine ev_swk (t := 83) rfl hc (by decide) ?_
          refine ev_steps 2 (c' := (87, [some (vR 3 u), some (vI a1), some (vI a2), some (vR 7 (2 * u + ix a1))], [vI (nz (S cPath_active (2 * u + ix a1) 0))])) (h' := (S, T)) rfl ?_
          refine ev_if_eq rfl (fun hc => ?_) (fun hc => ?_)
          · rw [if_pos hc] at hx
            refine ev_steps 1 (c' := (95, [some (vR 3 u), some (vI a1), some (vI a2), some (vR 7 (2 * u + ix a1))], [vI (0 : Int32)])) (h' := (S, T)) rfl ?_
            cases hx
            subst hG
            exact ev_ret rfl rfl
          · rw [if_neg hc] at hx
            refine ev_steps 2 (c' := (95, [some (vR 3 u), some (vI a1), some (vI a2), some (vR 7 (2 * u + ix a1))], [vI (1 : Int32)])) (h' := (S, T)) rfl ?_
            cases hx
            subst hG
            exact ev_ret rfl rfl
        rw [if_neg hc] at hx
        have hn3 := hc
        clear hc
        by_cases hc : a2 = (4 : Int32)
        · rw [if_pos hc] at hx
          refine ev_swk (t := 96) rfl hc (by decide) ?_
          refine ev_steps 3 (c' := (101, [some (vR 3 u), some (vI a1), some (vI a2), some (vR 7 (2 * u + ix a1))], [vI a1, vR 5 u])) (h' := (S, T)) rfl ?_
          obtain ⟨r205, hc, hx⟩ := bd_some hx
          refine ev_call rfl rfl rfl rfl rfl rfl rfl rfl rfl ((t_Outbox_countOut scr u a1 S T hc rfl).mono (by decide)) ?_
          refine ev_steps 0 (c' := (104, [some (vR 3 u), some (vI a1), some (vI a2), some (vR 7 (2 * u + ix a1))], [vI r205])) (h' := (S, T)) rfl ?_
          cases hx
          subst hG
          exact ev_ret rfl rfl
        rw [if_neg hc] at hx
        have hn4 := hc
        clear hc
        by_cases hc : a2 = (5 : Int32)
        · rw [if_pos hc] at hx
          refine ev_swk (t := 105) rfl hc (by decide) ?_
          refine ev_steps 2 (c' := (109, [some (vR 3 u), some (vI a1), some (vI a2), some (vR 7 (2 * u + ix a1))], [vI (nz (S cPath_timerRuns (2 * u + ix a1) 0))])) (h' := (S, T)) rfl ?_
          refine ev_if_eq rfl (fun hc => ?_) (fun hc => ?_)
          · rw [if_pos hc] at hx
            refine ev_steps 1 (c' := (117, [some (vR 3 u), some (vI a1), some (vI a2), some (vR 7 (2 * u + ix a1))], [vI (0 : Int32)])) (h' := (S, T)) rfl ?_
            cases hx
            subst hG
            exact ev_ret rfl rfl
          · rw [if_neg hc] at hx
            refine ev_steps 2 (c' := (117, [some (vR 3 u), some (vI a1), some (vI a2), some (vR 7 (2 * u + ix a1))], [vI (1 : Int32)])) (h' := (S, T)) rfl ?_
            cases hx
            subst hG
            exact ev_ret rfl rfl
        rw [if_neg hc] at hx
        have hn5 := hc
        clear hc
        refine ev_swd rfl (And.intro (sw_ne hn0 rfl) (And.intro (sw_ne hn1 rfl) (And.intro (sw_ne hn2 rfl) (And.intro (sw_ne hn3 rfl) (And.intro (sw_ne hn4 rfl) (And.intro (sw_ne hn5 rfl) (True.intro))))))) ?_
        refine ev_steps 2 (c' := (122, [some (vR 3 u), some (vI a1), some (vI a2), some (vR 7 (2 * u + ix a1))], [vI (nz (S cPath_beatOpen (2 * u + ix a1) 0))])) (h' := (S, T)) rfl ?_
        refine ev_if_eq rfl (fun hc => ?_) (fun hc => ?_)
        · rw [if_pos hc] at hx
          refine ev_steps 1 (c' := (130, [some (vR 3 u), some (vI a1), some (vI a2), some (vR 7 (2 * u + ix a1))], [vI (0 : Int32)])) (h' := (S, T)) rfl ?_
          cases hx
          subst hG
          exact ev_ret rfl rfl
        · rw [if_neg hc] at hx
          refine ev_steps 2 (c' := (130, [some (vR 3 u), some (vI a1), some (vI a2), some (vR 7 (2 * u + ix a1))], [vI (1 : Int32)])) (h' := (S, T)) rfl ?_
          cases hx
          subst hG
          exact ev_ret rfl rfl
      · rw [if_neg hc] at hx
        refine ev_steps 1 (c' := (21, [some (vR 3 u), some (vI a1), some (vI a2), none], [vI (0 : Int32)])) (h' := (S, T)) rfl ?_
        cases hx
        subst hG
        exact ev_ret rfl rfl
-- L_path
def f_L_path_28 (S : St) : Option (Int32) :=
  some (-1 : Int32)
theorem t_L_path_28 (scr : Nat × (Nat → Int32)) (S : St) (T : St) (d0 d1 d2 d3 : Option iV) {x : Int32} {o : Option iV × SS} (hx : f_L_path_28 S = some x) (hG : (fun x => (some (vI x), (S, T)) = o) x) : EB scr 4 0 1 cd_L_path (28, [d0, d1, d2, d3], []) (S, T) o := by
  unfold f_L_path_28 at hx
  try dsimp only at hG
  refine ev_steps 1 (c' := (29, [_, _, _, _], [vI (-1 : Int32)])) (h' := (S, T)) rfl ?_
  cases hx
  subst hG
  exact ev_ret rfl rfl
def f_L_path (u : Nat) (a1 : Int32) (a2 : Int32) (a3 : Int32) (S : St) : Option (Int32) :=
  if (f_L_isEnd a1) = 0 then f_L_path_28 S else (if (f_L_isPath a2) = 0 then f_L_path_28 S else (if inb a1 2 = true then bd (f_End_tellOfPath (ix a1) a2 a3 S) (fun r207 => some r207) else none))
theorem t_L_path (scr : Nat × (Nat → Int32)) (u : Nat) (a1 : Int32) (a2 : Int32) (a3 : Int32) (S T : St) {x : Int32} {o : Option iV × SS} (hx : f_L_path u a1 a2 a3 S = some x) (hG : (some (vI x), (S, T)) = o) : E0 scr 5 14 [vR 0 u, vI a1, vI a2, vI a3] (S, T) o := by
  refine ev_meth (ls := [some (vR 0 u), some (vI a1), some (vI a2), some (vI a3)]) rfl rfl rfl ?_
  unfold f_L_path at hx
  refine ev_steps 1 (c' := (1, [some (vR 0 u), some (vI a1), some (vI a2), some (vI a3)], [vI a1])) (h' := (S, T)) rfl ?_
  refine ev_call rfl rfl rfl rfl rfl rfl rfl rfl rfl ((t_L_isEnd scr a1 S T rfl).mono (by decide)) ?_
  refine ev_steps 0 (c' := (4, [some (vR 0 u), some (vI a1), some (vI a2), some (vI a3)], [vI (f_L_isEnd a1)])) (h' := (S, T)) rfl ?_
  refine ev_if_eq rfl (fun hc => ?_) (fun hc => ?_)
  · rw [if_pos hc] at hx
    exact t_L_path_28 scr S T _ _ _ _ hx hG
  · rw [if_neg hc] at hx
    refine ev_steps 1 (c' := (8, [some (vR 0 u), some (vI a1), some (vI a2), some (vI a3)], [vI a2])) (h' := (S, T)) rfl ?_
    refine ev_call rfl rfl rfl rfl rfl rfl rfl rfl rfl ((t_L_isPath scr a2 S T rfl).mono (by decide)) ?_
    refine ev_steps 0 (c' := (11, [some (vR 0 u), some (vI a1), some (vI a2), some (vI a3)], [vI (f_L_isPath a2)])) (h' := (S, T)) rfl ?_
    refine ev_if_eq rfl (fun hc => ?_) (fun hc => ?_)
    · rw [if_pos hc] at hx
      exact t_L_path_28 scr S T _ _ _ _ hx hG
    · rw [if_neg hc] at hx
      refine ev_steps 3 (c' := (19, [some (vR 0 u), some (vI a1), some (vI a2), some (vI a3)], [vI a1, vR 64 u])) (h' := (S, T)) rfl ?_
      obtain ⟨hg, hx⟩ := ifg hx
      refine ev_aald2 rfl rfl hg ?_
      refine ev_steps 2 (c' := (22, [some (vR 0 u), some (vI a1), some (vI a2), some (vI a3)], [vI a3, vI a2, vR 3 (ix a1)])) (h' := (S, T)) rfl ?_
      obtain ⟨r207, hc, hx⟩ := bd_some hx
      refine ev_call rfl rfl rfl rfl rfl rfl rfl rfl rfl ((t_End_tellOfPath scr (ix a1) a2 a3 S T hc rfl).mono (by decide)) ?_
      refine ev_steps 1 (c' := (29, [some (vR 0 u), some (vI a1), some (vI a2), some (vI a3)], [vI r207])) (h' := (S, T)) rfl ?_
      cases hx
      subst hG
      exact ev_ret rfl rfl
-- L_waiting
def f_L_waiting_34 (S : St) : Option (Int32) :=
  some (-1 : Int32)
theorem t_L_waiting_34 (scr : Nat × (Nat → Int32)) (S : St) (T : St) (d0 d1 d2 : Option iV) {x : Int32} {o : Option iV × SS} (hx : f_L_waiting_34 S = some x) (hG : (fun x => (some (vI x), (S, T)) = o) x) : EB scr 1 0 1 cd_L_waiting (34, [d0, d1, d2], []) (S, T) o := by
  unfold f_L_waiting_34 at hx
  try dsimp only at hG
  refine ev_steps 1 (c' := (35, [_, _, _], [vI (-1 : Int32)])) (h' := (S, T)) rfl ?_
  cases hx
  subst hG
  exact ev_ret rfl rfl
def f_L_waiting (u : Nat) (a1 : Int32) (a2 : Int32) (S : St) : Option (Int32) :=
  if (f_L_isEnd a1) = 0 then f_L_waiting_34 S else (if (f_L_isPath a2) = 0 then f_L_waiting_34 S else (if inb a1 2 = true then if inb a2 2 = true then some (S cRow_count (2 * (ix a1) + ix a2) 0) else none else none))
theorem t_L_waiting (scr : Nat × (Nat → Int32)) (u : Nat) (a1 : Int32) (a2 : Int32) (S T : St) {x : Int32} {o : Option iV × SS} (hx : f_L_waiting u a1 a2 S = some x) (hG : (some (vI x), (S, T)) = o) : E0 scr 2 15 [vR 0 u, vI a1, vI a2] (S, T) o := by
  refine ev_meth (ls := [some (vR 0 u), some (vI a1), some (vI a2)]) rfl rfl rfl ?_
  unfold f_L_waiting at hx
  refine ev_steps 1 (c' := (1, [some (vR 0 u), some (vI a1), some (vI a2)], [vI a1])) (h' := (S, T)) rfl ?_
  refine ev_call rfl rfl rfl rfl rfl rfl rfl rfl rfl ((t_L_isEnd scr a1 S T rfl).mono (by decide)) ?_
  refine ev_steps 0 (c' := (4, [some (vR 0 u), some (vI a1), some (vI a2)], [vI (f_L_isEnd a1)])) (h' := (S, T)) rfl ?_
  refine ev_if_eq rfl (fun hc => ?_) (fun hc => ?_)
  · rw [if_pos hc] at hx
    exact t_L_waiting_34 scr S T _ _ _ hx hG
  · rw [if_neg hc] at hx
    refine ev_steps 1 (c' := (8, [some (vR 0 u), some (vI a1), some (vI a2)], [vI a2])) (h' := (S, T)) rfl ?_
    refine ev_call rfl rfl rfl rfl rfl rfl rfl rfl rfl ((t_L_isPath scr a2 S T rfl).mono (by decide)) ?_
    refine ev_steps 0 (c' := (11, [some (vR 0 u), some (vI a1), some (vI a2)], [vI (f_L_isPath a2)])) (h' := (S, T)) rfl ?_
    refine ev_if_eq rfl (fun hc => ?_) (fun hc => ?_)
    · rw [if_pos hc] at hx
      exact t_L_waiting_34 scr S T _ _ _ hx hG
    · rw [if_neg hc] at hx
      refine ev_steps 3 (c' := (19, [some (vR 0 u), some (vI a1), some (vI a2)], [vI a1, vR 64 u])) (h' := (S, T)) rfl ?_
      obtain ⟨hg, hx⟩ := ifg hx
      refine ev_aald2 rfl rfl hg ?_
      refine ev_steps 2 (c' := (24, [some (vR 0 u), some (vI a1), some (vI a2)], [vI a2, vR 67 (ix a1)])) (h' := (S, T)) rfl ?_
      obtain ⟨hg, hx⟩ := ifg hx
      refine ev_aald3 rfl rfl hg ?_
      refine ev_steps 3 (c' := (35, [some (vR 0 u), some (vI a1), some (vI a2)], [vI (S cRow_count (2 * (ix a1) + ix a2) 0)])) (h' := (S, T)) rfl ?_
      cases hx
      subst hG
      exact ev_ret rfl rfl
-- L_word
def f_L_word (u : Nat) (a1 : Int32) (a2 : Int32) (S : St) : Option (Int32) :=
  if (f_L_isEnd a1) = 0 then some (0 : Int32) else (if inb a1 2 = true then bd (f_Outbox_stateOf (ix a1) a2 S) (fun r209 => some r209) else none)
theorem t_L_word (scr : Nat × (Nat → Int32)) (u : Nat) (a1 : Int32) (a2 : Int32) (S T : St) {x : Int32} {o : Option iV × SS} (hx : f_L_word u a1 a2 S = some x) (hG : (some (vI x), (S, T)) = o) : E0 scr 4 16 [vR 0 u, vI a1, vI a2] (S, T) o := by
  refine ev_meth (ls := [some (vR 0 u), some (vI a1), some (vI a2)]) rfl rfl rfl ?_
  unfold f_L_word at hx
  refine ev_steps 1 (c' := (1, [some (vR 0 u), some (vI a1), some (vI a2)], [vI a1])) (h' := (S, T)) rfl ?_
  refine ev_call rfl rfl rfl rfl rfl rfl rfl rfl rfl ((t_L_isEnd scr a1 S T rfl).mono (by decide)) ?_
  refine ev_steps 0 (c' := (4, [some (vR 0 u), some (vI a1), some (vI a2)], [vI (f_L_isEnd a1)])) (h' := (S, T)) rfl ?_
  refine ev_if_eq rfl (fun hc => ?_) (fun hc => ?_)
  · rw [if_pos hc] at hx
    refine ev_steps 1 (c' := (24, [some (vR 0 u), some (vI a1), some (vI a2)], [vI (0 : Int32)])) (h' := (S, T)) rfl ?_
    cases hx
    subst hG
    exact ev_ret rfl rfl
  · rw [if_neg hc] at hx
    refine ev_steps 3 (c' := (12, [some (vR 0 u), some (vI a1), some (vI a2)], [vI a1, vR 64 u])) (h' := (S, T)) rfl ?_
    obtain ⟨hg, hx⟩ := ifg hx
    refine ev_aald2 rfl rfl hg ?_
    refine ev_steps 2 (c' := (17, [some (vR 0 u), some (vI a1), some (vI a2)], [vI a2, vR 5 (ix a1)])) (h' := (S, T)) rfl ?_
    obtain ⟨r209, hc, hx⟩ := bd_some hx
    refine ev_call rfl rfl rfl rfl rfl rfl rfl rfl rfl ((t_Outbox_stateOf scr (ix a1) a2 S T hc rfl).mono (by decide)) ?_
    refine ev_steps 1 (c' := (24, [some (vR 0 u), some (vI a1), some (vI a2)], [vI r209])) (h' := (S, T)) rfl ?_
    cases hx
    subst hG
    exact ev_ret rfl rfl
-- M_isTwo
def f_M_isTwo_9 : Int32 :=
  (1 : Int32)
theorem t_M_isTwo_9 (scr : Nat × (Nat → Int32)) (S : St) (T : St) (d0 : Option iV) {o : Option iV × SS} (hG : (fun x => (some (vI x), (T, S)) = o) (f_M_isTwo_9)) : EB scr 0 1 2 cd_M_isTwo (9, [d0], []) (T, S) o := by
  unfold f_M_isTwo_9 at hG
  try dsimp only at hG
  refine ev_steps 2 (c' := (14, [_], [vI (1 : Int32)])) (h' := (T, S)) rfl ?_
  subst hG
  exact ev_ret rfl rfl
def f_M_isTwo (a0 : Int32) : Int32 :=
  if a0 = 0 then f_M_isTwo_9 else (if a0 = (1 : Int32) then f_M_isTwo_9 else (0 : Int32))
theorem t_M_isTwo (scr : Nat × (Nat → Int32)) (a0 : Int32) (S T : St) {o : Option iV × SS} (hG : (some (vI (f_M_isTwo a0)), (T, S)) = o) : E0 scr 1 29 [vI a0] (T, S) o := by
  refine ev_meth (ls := [some (vI a0)]) rfl rfl rfl ?_
  unfold f_M_isTwo at hG
  refine ev_steps 1 (c' := (1, [some (vI a0)], [vI a0])) (h' := (T, S)) rfl ?_
  refine ev_if_eq rfl (fun hc => ?_) (fun hc => ?_)
  · rw [if_pos hc] at hG
    exact t_M_isTwo_9 scr S T _ hG
  · rw [if_neg hc] at hG
    refine ev_steps 2 (c' := (6, [some (vI a0)], [vI (1 : Int32), vI a0])) (h' := (T, S)) rfl ?_
    refine ev_icmp_ne rfl (fun hc => ?_) (fun hc => ?_)
    · rw [if_pos hc] at hG
      exact t_M_isTwo_9 scr S T _ hG
    · rw [if_neg hc] at hG
      refine ev_steps 1 (c' := (14, [some (vI a0)], [vI (0 : Int32)])) (h' := (T, S)) rfl ?_
      subst hG
      exact ev_ret rfl rfl
-- M_mixed
def f_M_mixed (a0 : Int32) (a1 : Int32) : Int32 :=
  ((a0 ^^^ a1) * (16777619 : Int32)) ^^^ (iUsh ((a0 ^^^ a1) * (16777619 : Int32)) (15 : Int32))
theorem t_M_mixed (scr : Nat × (Nat → Int32)) (a0 : Int32) (a1 : Int32) (S T : St) {o : Option iV × SS} (hG : (some (vI (f_M_mixed a0 a1)), (T, S)) = o) : E0 scr 1 30 [vI a0, vI a1] (T, S) o := by
  refine ev_meth (ls := [some (vI a0), some (vI a1), none]) rfl rfl rfl ?_
  unfold f_M_mixed at hG
  refine ev_steps 11 (c' := (13, [some (vI a0), some (vI a1), some (vI ((a0 ^^^ a1) * (16777619 : Int32)))], [vI (((a0 ^^^ a1) * (16777619 : Int32)) ^^^ (iUsh ((a0 ^^^ a1) * (16777619 : Int32)) (15 : Int32)))])) (h' := (T, S)) rfl ?_
  subst hG
  exact ev_ret rfl rfl
-- M_seal
def f_M_seal (u : Nat) (a1 : Int32) (a2 : Int32) (a3 : Int32) (S : St) : Int32 :=
  (f_M_mixed (f_M_mixed (f_M_mixed (f_M_mixed (f_M_mixed (-2128831035 : Int32) (S cM_key u 0)) a1) a2) a3) (7 : Int32))
theorem t_M_seal (scr : Nat × (Nat → Int32)) (u : Nat) (a1 : Int32) (a2 : Int32) (a3 : Int32) (S T : St) {o : Option iV × SS} (hG : (some (vI (f_M_seal u a1 a2 a3 S)), (T, S)) = o) : E0 scr 2 31 [vR 1 u, vI a1, vI a2, vI a3] (T, S) o := by
  refine ev_meth (ls := [some (vR 1 u), some (vI a1), some (vI a2), some (vI a3), none]) rfl rfl rfl ?_
  unfold f_M_seal at hG
  refine ev_steps 3 (c' := (6, [some (vR 1 u), some (vI a1), some (vI a2), some (vI a3), none], [vI (S cM_key u 0), vI (-2128831035 : Int32)])) (h' := (T, S)) rfl ?_
  refine ev_call rfl rfl rfl rfl rfl rfl rfl rfl rfl ((t_M_mixed scr (-2128831035 : Int32) (S cM_key u 0) S T rfl).mono (by decide)) ?_
  refine ev_steps 1 (c' := (10, [some (vR 1 u), some (vI a1), some (vI a2), some (vI a3), none], [vI a1, vI (f_M_mixed (-2128831035 : Int32) (S cM_key u 0))])) (h' := (T, S)) rfl ?_
  refine ev_call rfl rfl rfl rfl rfl rfl rfl rfl rfl ((t_M_mixed scr (f_M_mixed (-2128831035 : Int32) (S cM_key u 0)) a1 S T rfl).mono (by decide)) ?_
  refine ev_steps 3 (c' := (18, [some (vR 1 u), some (vI a1), some (vI a2), some (vI a3), some (vI (f_M_mixed (f_M_mixed (-2128831035 : Int32) (S cM_key u 0)) a1))], [vI a2, vI (f_M_mixed (f_M_mixed (-2128831035 : Int32) (S cM_key u 0)) a1)])) (h' := (T, S)) rfl ?_
  refine ev_call rfl rfl rfl rfl rfl rfl rfl rfl rfl ((t_M_mixed scr (f_M_mixed (f_M_mixed (-2128831035 : Int32) (S cM_key u 0)) a1) a2 S T rfl).mono (by decide)) ?_
  refine ev_steps 1 (c' := (22, [some (vR 1 u), some (vI a1), some (vI a2), some (vI a3), some (vI (f_M_mixed (f_M_mixed (-2128831035 : Int32) (S cM_key u 0)) a1))], [vI a3, vI (f_M_mixed (f_M_mixed (f_M_mixed (-2128831035 : Int32) (S cM_key u 0)) a1) a2)])) (h' := (T, S)) rfl ?_
  refine ev_call rfl rfl rfl rfl rfl rfl rfl rfl rfl ((t_M_mixed scr (f_M_mixed (f_M_mixed (f_M_mixed (-2128831035 : Int32) (S cM_key u 0)) a1) a2) a3 S T rfl).mono (by decide)) ?_
  refine ev_steps 1 (c' := (27, [some (vR 1 u), some (vI a1), some (vI a2), some (vI a3), some (vI (f_M_mixed (f_M_mixed (-2128831035 : Int32) (S cM_key u 0)) a1))], [vI (7 : Int32), vI (f_M_mixed (f_M_mixed (f_M_mixed (f_M_mixed (-2128831035 : Int32) (S cM_key u 0)) a1) a2) a3)])) (h' := (T, S)) rfl ?_
  refine ev_call rfl rfl rfl rfl rfl rfl rfl rfl rfl ((t_M_mixed scr (f_M_mixed (f_M_mixed (f_M_mixed (f_M_mixed (-2128831035 : Int32) (S cM_key u 0)) a1) a2) a3) (7 : Int32) S T rfl).mono (by decide)) ?_
  refine ev_steps 0 (c' := (30, [some (vR 1 u), some (vI a1), some (vI a2), some (vI a3), some (vI (f_M_mixed (f_M_mixed (-2128831035 : Int32) (S cM_key u 0)) a1))], [vI (f_M_mixed (f_M_mixed (f_M_mixed (f_M_mixed (f_M_mixed (-2128831035 : Int32) (S cM_key u 0)) a1) a2) a3) (7 : Int32))])) (h' := (T, S)) rfl ?_
  subst hG
  exact ev_ret rfl rfl
-- M_post
def f_M_post_82_b (l0 : Nat) (l7 : Int32) (l8 : Int32)  : (Int32 × St) → Option ((Int32 × St) ⊕ (St))
  | (l9, S) => if l9 < (8 : Int32) then (if inb (l8 + l9) 256 = true then some (Sum.inl (l9 + (1 : Int32), up3 S cM_packet l0 (ix (l8 + l9)) (0 : Int32))) else none) else exW (if inb l7 4 = true then if inb l7 4 = true then some (up3 S cM_rows l0 (ix l7) ((S cM_rows l0 (ix l7)) + (1 : Int32))) else none else none)
def f_M_post_82 (l0 : Nat) (l7 : Int32) (l8 : Int32)  (q : Int32 × St) : Option (St) := iter (f_M_post_82_b l0 l7 l8) 4096 q
theorem t_M_post_82_b (scr : Nat × (Nat → Int32)) (l0 : Nat) (l7 : Int32) (l8 : Int32) (l9 : Int32) (S : St) (T : St) (d1 d2 d3 d4 d5 d6 : Option iV) {x : (Int32 × St) ⊕ (St)} {o : Option iV × SS} (hx : f_M_post_82_b l0 l7 l8 (l9, S) = some x) (hG : (Sum.elim (fun q => ∀ d1 d2 d3 d4 d5 d6 : Option iV, EB scr 0 1 0 cd_M_post (82, [some (vR 1 l0), d1, d2, d3, d4, d5, d6, some (vI l7), some (vI l8), some (vI q.1)], []) (T, q.2) o) (fun x => (none, (T, x)) = o)) x) : EB scr 0 1 0 cd_M_post (82, [some (vR 1 l0), d1, d2, d3, d4, d5, d6, some (vI l7), some (vI l8), some (vI l9)], []) (T, S) o := by
  unfold f_M_post_82_b at hx
  dsimp only at hx
  refine ev_steps 2 (c' := (86, [some (vR 1 l0), _, _, _, _, _, _, some (vI l7), some (vI l8), some (vI l9)], [vI (8 : Int32), vI l9])) (h' := (T, S)) rfl ?_
  refine ev_icmp_ge rfl (fun hc => ?_) (fun hc => ?_)
  · rw [if_pos hc] at hx
    refine ev_steps 6 (c' := (99, [some (vR 1 l0), _, _, _, _, _, _, some (vI l7), some (vI l8), some (vI l9)], [vI (0 : Int32), vI (l8 + l9), vR 77 l0])) (h' := (T, S)) rfl ?_
    obtain ⟨hg, hx⟩ := ifg hx
    refine ev_iast rfl rfl hg ?_
    refine ev_steps 2 (c' := (82, [some (vR 1 l0), _, _, _, _, _, _, some (vI l7), some (vI l8), some (vI (l9 + (1 : Int32)))], [])) (h' := (T, up3 S cM_packet l0 (ix (l8 + l9)) (0 : Int32))) rfl ?_
    cases hx
    exact hG _ _ _ _ _ _
  · rw [if_neg hc] at hx
    obtain ⟨x, hy, rfl⟩ := exW_some hx
    replace hx := hy
    simp only [Sum.elim_inr] at hG
    refine ev_steps 4 (c' := (113, [some (vR 1 l0), _, _, _, _, _, _, some (vI l7), some (vI l8), some (vI l9)], [vI l7, vR 76 l0, vI l7, vR 76 l0])) (h' := (T, S)) rfl ?_
    obtain ⟨hg, hx⟩ := ifg hx
    refine ev_iald rfl rfl rfl hg ?_
    refine ev_steps 2 (c' := (116, [some (vR 1 l0), _, _, _, _, _, _, some (vI l7), some (vI l8), some (vI l9)], [vI ((S cM_rows l0 (ix l7)) + (1 : Int32)), vI l7, vR 76 l0])) (h' := (T, S)) rfl ?_
    obtain ⟨hg, hx⟩ := ifg hx
    refine ev_iast rfl rfl hg ?_
    refine ev_steps 0 (c' := (117, [some (vR 1 l0), _, _, _, _, _, _, some (vI l7), some (vI l8), some (vI l9)], [])) (h' := (T, up3 S cM_rows l0 (ix l7) ((S cM_rows l0 (ix l7)) + (1 : Int32)))) rfl ?_
    cases hx
    subst hG
    exact ev_ret rfl rfl
theorem t_M_post_82 (scr : Nat × (Nat → Int32)) (l0 : Nat) (l7 : Int32) (l8 : Int32) (l9 : Int32) (S : St) (T : St) (d1 d2 d3 d4 d5 d6 : Option iV) {x : St} {o : Option iV × SS} (hx : f_M_post_82 l0 l7 l8 (l9, S) = some x) (hG : (fun x => (none, (T, x)) = o) x) : EB scr 0 1 0 cd_M_post (82, [some (vR 1 l0), d1, d2, d3, d4, d5, d6, some (vI l7), some (vI l8), some (vI l9)], []) (T, S) o := by
  exact iter_ind (P := fun q => ∀ d1 d2 d3 d4 d5 d6 : Option iV, EB scr 0 1 0 cd_M_post (82, [some (vR 1 l0), d1, d2, d3, d4, d5, d6, some (vI l7), some (vI l8), some (vI q.1)], []) (T, q.2) o) (G := fun x => (none, (T, x)) = o) (fun q x hb hP d1 d2 d3 d4 d5 d6 => t_M_post_82_b scr l0 l7 l8 q.1 q.2 T d1 d2 d3 d4 d5 d6 hb hP) hx hG d1 d2 d3 d4 d5 d6
def f_M_post (u : Nat) (a1 : Int32) (a2 : Int32) (a3 : Int32) (a4 : Int32) (a5 : Int32) (a6 : Int32) (S : St) : Option (St) :=
  if inb (((2 : Int32) * a1) + a2) 4 = true then if (S cM_rows u (ix (((2 : Int32) * a1) + a2))) = (8 : Int32) then some S else (if inb (((2 : Int32) * a1) + a2) 4 = true then if inb (((64 : Int32) * (((2 : Int32) * a1) + a2)) + ((8 : Int32) * (S cM_rows u (ix (((2 : Int32) * a1) + a2))))) 256 = true then if inb ((((64 : Int32) * (((2 : Int32) * a1) + a2)) + ((8 : Int32) * (S cM_rows u (ix (((2 : Int32) * a1) + a2))))) + (1 : Int32)) 256 = true then if inb ((((64 : Int32) * (((2 : Int32) * a1) + a2)) + ((8 : Int32) * (S cM_rows u (ix (((2 : Int32) * a1) + a2))))) + (2 : Int32)) 256 = true then if inb ((((64 : Int32) * (((2 : Int32) * a1) + a2)) + ((8 : Int32) * (S cM_rows u (ix (((2 : Int32) * a1) + a2))))) + (3 : Int32)) 256 = true then f_M_post_82 u (((2 : Int32) * a1) + a2) (((64 : Int32) * (((2 : Int32) * a1) + a2)) + ((8 : Int32) * (S cM_rows u (ix (((2 : Int32) * a1) + a2))))) ((4 : Int32), up3 (up3 (up3 (up3 S cM_packet u (ix (((64 : Int32) * (((2 : Int32) * a1) + a2)) + ((8 : Int32) * (S cM_rows u (ix (((2 : Int32) * a1) + a2)))))) a3) cM_packet u (ix ((((64 : Int32) * (((2 : Int32) * a1) + a2)) + ((8 : Int32) * (S cM_rows u (ix (((2 : Int32) * a1) + a2))))) + (1 : Int32))) a4) cM_packet u (ix ((((64 : Int32) * (((2 : Int32) * a1) + a2)) + ((8 : Int32) * (S cM_rows u (ix (((2 : Int32) * a1) + a2))))) + (2 : Int32))) a5) cM_packet u (ix ((((64 : Int32) * (((2 : Int32) * a1) + a2)) + ((8 : Int32) * (S cM_rows u (ix (((2 : Int32) * a1) + a2))))) + (3 : Int32))) a6) else none else none else none else none else none) else none
theorem t_M_post (scr : Nat × (Nat → Int32)) (u : Nat) (a1 : Int32) (a2 : Int32) (a3 : Int32) (a4 : Int32) (a5 : Int32) (a6 : Int32) (S T : St) {x : St} {o : Option iV × SS} (hx : f_M_post u a1 a2 a3 a4 a5 a6 S = some x) (hG : (none, (T, x)) = o) : E0 scr 1 32 [vR 1 u, vI a1, vI a2, vI a3, vI a4, vI a5, vI a6] (T, S) o := by
  refine ev_meth (ls := [some (vR 1 u), some (vI a1), some (vI a2), some (vI a3), some (vI a4), some (vI a5), some (vI a6), none, none, none]) rfl rfl rfl ?_
  unfold f_M_post at hx
  refine ev_steps 9 (c' := (13, [some (vR 1 u), some (vI a1), some (vI a2), some (vI a3), some (vI a4), some (vI a5), some (vI a6), some (vI (((2 : Int32) * a1) + a2)), none, none], [vI (((2 : Int32) * a1) + a2), vR 76 u])) (h' := (T, S)) rfl ?_
  obtain ⟨hg, hx⟩ := ifg hx
  refine ev_iald rfl rfl rfl hg ?_
  refine ev_steps 1 (c' := (16, [some (vR 1 u), some (vI a1), some (vI a2), some (vI a3), some (vI a4), some (vI a5), some (vI a6), some (vI (((2 : Int32) * a1) + a2)), none, none], [vI (8 : Int32), vI (S cM_rows u (ix (((2 : Int32) * a1) + a2)))])) (h' := (T, S)) rfl ?_
  refine ev_icmp_ne rfl (fun hc => ?_) (fun hc => ?_)
  · rw [if_pos hc] at hx
    cases hx
    subst hG
    exact ev_ret rfl rfl
  · rw [if_neg hc] at hx
    refine ev_steps 7 (c' := (33, [some (vR 1 u), some (vI a1), some (vI a2), some (vI a3), some (vI a4), some (vI a5), some (vI a6), some (vI (((2 : Int32) * a1) + a2)), none, none], [vI (((2 : Int32) * a1) + a2), vR 76 u, vI (8 : Int32), vI ((64 : Int32) * (((2 : Int32) * a1) + a2))])) (h' := (T, S)) rfl ?_
    obtain ⟨hg, hx⟩ := ifg hx
    refine ev_iald rfl rfl rfl hg ?_
    refine ev_steps 7 (c' := (45, [some (vR 1 u), some (vI a1), some (vI a2), some (vI a3), some (vI a4), some (vI a5), some (vI a6), some (vI (((2 : Int32) * a1) + a2)), some (vI (((64 : Int32) * (((2 : Int32) * a1) + a2)) + ((8 : Int32) * (S cM_rows u (ix (((2 : Int32) * a1) + a2)))))), none], [vI a3, vI (((64 : Int32) * (((2 : Int32) * a1) + a2)) + ((8 : Int32) * (S cM_rows u (ix (((2 : Int32) * a1) + a2))))), vR 77 u])) (h' := (T, S)) rfl ?_
    obtain ⟨hg, hx⟩ := ifg hx
    refine ev_iast rfl rfl hg ?_
    refine ev_steps 6 (c' := (56, [some (vR 1 u), some (vI a1), some (vI a2), some (vI a3), some (vI a4), some (vI a5), some (vI a6), some (vI (((2 : Int32) * a1) + a2)), some (vI (((64 : Int32) * (((2 : Int32) * a1) + a2)) + ((8 : Int32) * (S cM_rows u (ix (((2 : Int32) * a1) + a2)))))), none], [vI a4, vI ((((64 : Int32) * (((2 : Int32) * a1) + a2)) + ((8 : Int32) * (S cM_rows u (ix (((2 : Int32) * a1) + a2))))) + (1 : Int32)), vR 77 u])) (h' := (T, up3 S cM_packet u (ix (((64 : Int32) * (((2 : Int32) * a1) + a2)) + ((8 : Int32) * (S cM_rows u (ix (((2 : Int32) * a1) + a2)))))) a3)) rfl ?_
    obtain ⟨hg, hx⟩ := ifg hx
    refine ev_iast rfl rfl hg ?_
    refine ev_steps 6 (c' := (67, [some (vR 1 u), some (vI a1), some (vI a2), some (vI a3), some (vI a4), some (vI a5), some (vI a6), some (vI (((2 : Int32) * a1) + a2)), some (vI (((64 : Int32) * (((2 : Int32) * a1) + a2)) + ((8 : Int32) * (S cM_rows u (ix (((2 : Int32) * a1) + a2)))))), none], [vI a5, vI ((((64 : Int32) * (((2 : Int32) * a1) + a2)) + ((8 : Int32) * (S cM_rows u (ix (((2 : Int32) * a1) + a2))))) + (2 : Int32)), vR 77 u])) (h' := (T, up3 (up3 S cM_packet u (ix (((64 : Int32) * (((2 : Int32) * a1) + a2)) + ((8 : Int32) * (S cM_rows u (ix (((2 : Int32) * a1) + a2)))))) a3) cM_packet u (ix ((((64 : Int32) * (((2 : Int32) * a1) + a2)) + ((8 : Int32) * (S cM_rows u (ix (((2 : Int32) * a1) + a2))))) + (1 : Int32))) a4)) rfl ?_
    obtain ⟨hg, hx⟩ := ifg hx
    refine ev_iast rfl rfl hg ?_
    refine ev_steps 6 (c' := (78, [some (vR 1 u), some (vI a1), some (vI a2), some (vI a3), some (vI a4), some (vI a5), some (vI a6), some (vI (((2 : Int32) * a1) + a2)), some (vI (((64 : Int32) * (((2 : Int32) * a1) + a2)) + ((8 : Int32) * (S cM_rows u (ix (((2 : Int32) * a1) + a2)))))), none], [vI a6, vI ((((64 : Int32) * (((2 : Int32) * a1) + a2)) + ((8 : Int32) * (S cM_rows u (ix (((2 : Int32) * a1) + a2))))) + (3 : Int32)), vR 77 u])) (h' := (T, up3 (up3 (up3 S cM_packet u (ix (((64 : Int32) * (((2 : Int32) * a1) + a2)) + ((8 : Int32) * (S cM_rows u (ix (((2 : Int32) * a1) + a2)))))) a3) cM_packet u (ix ((((64 : Int32) * (((2 : Int32) * a1) + a2)) + ((8 : Int32) * (S cM_rows u (ix (((2 : Int32) * a1) + a2))))) + (1 : Int32))) a4) cM_packet u (ix ((((64 : Int32) * (((2 : Int32) * a1) + a2)) + ((8 : Int32) * (S cM_rows u (ix (((2 : Int32) * a1) + a2))))) + (2 : Int32))) a5)) rfl ?_
    obtain ⟨hg, hx⟩ := ifg hx
    refine ev_iast rfl rfl hg ?_
    refine ev_steps 2 (c' := (82, [some (vR 1 u), some (vI a1), some (vI a2), some (vI a3), some (vI a4), some (vI a5), some (vI a6), some (vI (((2 : Int32) * a1) + a2)), some (vI (((64 : Int32) * (((2 : Int32) * a1) + a2)) + ((8 : Int32) * (S cM_rows u (ix (((2 : Int32) * a1) + a2)))))), some (vI (4 : Int32))], [])) (h' := (T, up3 (up3 (up3 (up3 S cM_packet u (ix (((64 : Int32) * (((2 : Int32) * a1) + a2)) + ((8 : Int32) * (S cM_rows u (ix (((2 : Int32) * a1) + a2)))))) a3) cM_packet u (ix ((((64 : Int32) * (((2 : Int32) * a1) + a2)) + ((8 : Int32) * (S cM_rows u (ix (((2 : Int32) * a1) + a2))))) + (1 : Int32))) a4) cM_packet u (ix ((((64 : Int32) * (((2 : Int32) * a1) + a2)) + ((8 : Int32) * (S cM_rows u (ix (((2 : Int32) * a1) + a2))))) + (2 : Int32))) a5) cM_packet u (ix ((((64 : Int32) * (((2 : Int32) * a1) + a2)) + ((8 : Int32) * (S cM_rows u (ix (((2 : Int32) * a1) + a2))))) + (3 : Int32))) a6)) rfl ?_
    exact t_M_post_82 scr u (((2 : Int32) * a1) + a2) (((64 : Int32) * (((2 : Int32) * a1) + a2)) + ((8 : Int32) * (S cM_rows u (ix (((2 : Int32) * a1) + a2))))) (4 : Int32) (up3 (up3 (up3 (up3 S cM_packet u (ix (((64 : Int32) * (((2 : Int32) * a1) + a2)) + ((8 : Int32) * (S cM_rows u (ix (((2 : Int32) * a1) + a2)))))) a3) cM_packet u (ix ((((64 : Int32) * (((2 : Int32) * a1) + a2)) + ((8 : Int32) * (S cM_rows u (ix (((2 : Int32) * a1) + a2))))) + (1 : Int32))) a4) cM_packet u (ix ((((64 : Int32) * (((2 : Int32) * a1) + a2)) + ((8 : Int32) * (S cM_rows u (ix (((2 : Int32) * a1) + a2))))) + (2 : Int32))) a5) cM_packet u (ix ((((64 : Int32) * (((2 : Int32) * a1) + a2)) + ((8 : Int32) * (S cM_rows u (ix (((2 : Int32) * a1) + a2))))) + (3 : Int32))) a6) T _ _ _ _ _ _ hx hG
-- M_more
def f_M_more (u : Nat) (a1 : Int32) (a2 : Int32) (a3 : Int32) (a4 : Int32) (a5 : Int32) (S : St) : Option (St) :=
  if inb a1 4 = true then if inb ((((64 : Int32) * a1) + ((8 : Int32) * ((S cM_rows u (ix a1)) - (1 : Int32)))) + (4 : Int32)) 256 = true then if inb ((((64 : Int32) * a1) + ((8 : Int32) * ((S cM_rows u (ix a1)) - (1 : Int32)))) + (5 : Int32)) 256 = true then if inb ((((64 : Int32) * a1) + ((8 : Int32) * ((S cM_rows u (ix a1)) - (1 : Int32)))) + (6 : Int32)) 256 = true then if inb ((((64 : Int32) * a1) + ((8 : Int32) * ((S cM_rows u (ix a1)) - (1 : Int32)))) + (7 : Int32)) 256 = true then some (up3 (up3 (up3 (up3 S cM_packet u (ix ((((64 : Int32) * a1) + ((8 : Int32) * ((S cM_rows u (ix a1)) - (1 : Int32)))) + (4 : Int32))) a2) cM_packet u (ix ((((64 : Int32) * a1) + ((8 : Int32) * ((S cM_rows u (ix a1)) - (1 : Int32)))) + (5 : Int32))) a3) cM_packet u (ix ((((64 : Int32) * a1) + ((8 : Int32) * ((S cM_rows u (ix a1)) - (1 : Int32)))) + (6 : Int32))) a4) cM_packet u (ix ((((64 : Int32) * a1) + ((8 : Int32) * ((S cM_rows u (ix a1)) - (1 : Int32)))) + (7 : Int32))) a5) else none else none else none else none else none
theorem t_M_more (scr : Nat × (Nat → Int32)) (u : Nat) (a1 : Int32) (a2 : Int32) (a3 : Int32) (a4 : Int32) (a5 : Int32) (S T : St) {x : St} {o : Option iV × SS} (hx : f_M_more u a1 a2 a3 a4 a5 S = some x) (hG : (none, (T, x)) = o) : E0 scr 1 33 [vR 1 u, vI a1, vI a2, vI a3, vI a4, vI a5] (T, S) o := by
  refine ev_meth (ls := [some (vR 1 u), some (vI a1), some (vI a2), some (vI a3), some (vI a4), some (vI a5), none]) rfl rfl rfl ?_
  unfold f_M_more at hx
  refine ev_steps 7 (c' := (11, [some (vR 1 u), some (vI a1), some (vI a2), some (vI a3), some (vI a4), some (vI a5), none], [vI a1, vR 76 u, vI (8 : Int32), vI ((64 : Int32) * a1)])) (h' := (T, S)) rfl ?_
  obtain ⟨hg, hx⟩ := ifg hx
  refine ev_iald rfl rfl rfl hg ?_
  refine ev_steps 11 (c' := (27, [some (vR 1 u), some (vI a1), some (vI a2), some (vI a3), some (vI a4), some (vI a5), some (vI (((64 : Int32) * a1) + ((8 : Int32) * ((S cM_rows u (ix a1)) - (1 : Int32)))))], [vI a2, vI ((((64 : Int32) * a1) + ((8 : Int32) * ((S cM_rows u (ix a1)) - (1 : Int32)))) + (4 : Int32)), vR 77 u])) (h' := (T, S)) rfl ?_
  obtain ⟨hg, hx⟩ := ifg hx
  refine ev_iast rfl rfl hg ?_
  refine ev_steps 6 (c' := (37, [some (vR 1 u), some (vI a1), some (vI a2), some (vI a3), some (vI a4), some (vI a5), some (vI (((64 : Int32) * a1) + ((8 : Int32) * ((S cM_rows u (ix a1)) - (1 : Int32)))))], [vI a3, vI ((((64 : Int32) * a1) + ((8 : Int32) * ((S cM_rows u (ix a1)) - (1 : Int32)))) + (5 : Int32)), vR 77 u])) (h' := (T, up3 S cM_packet u (ix ((((64 : Int32) * a1) + ((8 : Int32) * ((S cM_rows u (ix a1)) - (1 : Int32)))) + (4 : Int32))) a2)) rfl ?_
  obtain ⟨hg, hx⟩ := ifg hx
  refine ev_iast rfl rfl hg ?_
  refine ev_steps 6 (c' := (49, [some (vR 1 u), some (vI a1), some (vI a2), some (vI a3), some (vI a4), some (vI a5), some (vI (((64 : Int32) * a1) + ((8 : Int32) * ((S cM_rows u (ix a1)) - (1 : Int32)))))], [vI a4, vI ((((64 : Int32) * a1) + ((8 : Int32) * ((S cM_rows u (ix a1)) - (1 : Int32)))) + (6 : Int32)), vR 77 u])) (h' := (T, up3 (up3 S cM_packet u (ix ((((64 : Int32) * a1) + ((8 : Int32) * ((S cM_rows u (ix a1)) - (1 : Int32)))) + (4 : Int32))) a2) cM_packet u (ix ((((64 : Int32) * a1) + ((8 : Int32) * ((S cM_rows u (ix a1)) - (1 : Int32)))) + (5 : Int32))) a3)) rfl ?_
  obtain ⟨hg, hx⟩ := ifg hx
  refine ev_iast rfl rfl hg ?_
  refine ev_steps 6 (c' := (61, [some (vR 1 u), some (vI a1), some (vI a2), some (vI a3), some (vI a4), some (vI a5), some (vI (((64 : Int32) * a1) + ((8 : Int32) * ((S cM_rows u (ix a1)) - (1 : Int32)))))], [vI a5, vI ((((64 : Int32) * a1) + ((8 : Int32) * ((S cM_rows u (ix a1)) - (1 : Int32)))) + (7 : Int32)), vR 77 u])) (h' := (T, up3 (up3 (up3 S cM_packet u (ix ((((64 : Int32) * a1) + ((8 : Int32) * ((S cM_rows u (ix a1)) - (1 : Int32)))) + (4 : Int32))) a2) cM_packet u (ix ((((64 : Int32) * a1) + ((8 : Int32) * ((S cM_rows u (ix a1)) - (1 : Int32)))) + (5 : Int32))) a3) cM_packet u (ix ((((64 : Int32) * a1) + ((8 : Int32) * ((S cM_rows u (ix a1)) - (1 : Int32)))) + (6 : Int32))) a4)) rfl ?_
  obtain ⟨hg, hx⟩ := ifg hx
  refine ev_iast rfl rfl hg ?_
  refine ev_steps 0 (c' := (62, [some (vR 1 u), some (vI a1), some (vI a2), some (vI a3), some (vI a4), some (vI a5), some (vI (((64 : Int32) * a1) + ((8 : Int32) * ((S cM_rows u (ix a1)) - (1 : Int32)))))], [])) (h' := (T, up3 (up3 (up3 (up3 S cM_packet u (ix ((((64 : Int32) * a1) + ((8 : Int32) * ((S cM_rows u (ix a1)) - (1 : Int32)))) + (4 : Int32))) a2) cM_packet u (ix ((((64 : Int32) * a1) + ((8 : Int32) * ((S cM_rows u (ix a1)) - (1 : Int32)))) + (5 : Int32))) a3) cM_packet u (ix ((((64 : Int32) * a1) + ((8 : Int32) * ((S cM_rows u (ix a1)) - (1 : Int32)))) + (6 : Int32))) a4) cM_packet u (ix ((((64 : Int32) * a1) + ((8 : Int32) * ((S cM_rows u (ix a1)) - (1 : Int32)))) + (7 : Int32))) a5)) rfl ?_
  cases hx
  subst hG
  exact ev_ret rfl rfl
-- M_full
def f_M_full (u : Nat) (a1 : Int32) (a2 : Int32) (S : St) : Option (Int32) :=
  if inb (((2 : Int32) * a1) + a2) 4 = true then if (S cM_rows u (ix (((2 : Int32) * a1) + a2))) = (8 : Int32) then some (1 : Int32) else some (0 : Int32) else none
theorem t_M_full (scr : Nat × (Nat → Int32)) (u : Nat) (a1 : Int32) (a2 : Int32) (S T : St) {x : Int32} {o : Option iV × SS} (hx : f_M_full u a1 a2 S = some x) (hG : (some (vI x), (T, S)) = o) : E0 scr 1 34 [vR 1 u, vI a1, vI a2] (T, S) o := by
  refine ev_meth (ls := [some (vR 1 u), some (vI a1), some (vI a2)]) rfl rfl rfl ?_
  unfold f_M_full at hx
  refine ev_steps 7 (c' := (9, [some (vR 1 u), some (vI a1), some (vI a2)], [vI (((2 : Int32) * a1) + a2), vR 76 u])) (h' := (T, S)) rfl ?_
  obtain ⟨hg, hx⟩ := ifg hx
  refine ev_iald rfl rfl rfl hg ?_
  refine ev_steps 1 (c' := (12, [some (vR 1 u), some (vI a1), some (vI a2)], [vI (8 : Int32), vI (S cM_rows u (ix (((2 : Int32) * a1) + a2)))])) (h' := (T, S)) rfl ?_
  refine ev_icmp_ne rfl (fun hc => ?_) (fun hc => ?_)
  · rw [if_pos hc] at hx
    refine ev_steps 2 (c' := (20, [some (vR 1 u), some (vI a1), some (vI a2)], [vI (1 : Int32)])) (h' := (T, S)) rfl ?_
    cases hx
    subst hG
    exact ev_ret rfl rfl
  · rw [if_neg hc] at hx
    refine ev_steps 1 (c' := (20, [some (vR 1 u), some (vI a1), some (vI a2)], [vI (0 : Int32)])) (h' := (T, S)) rfl ?_
    cases hx
    subst hG
    exact ev_ret rfl rfl
-- M_take
def f_M_take_45_b (l0 : Nat) (l1 : Int32) (l2 : Int32)  : (Int32 × St) → Option ((Int32 × St) ⊕ (St))
  | (l3, S) => if inb l1 4 = true then if l3 < ((8 : Int32) * (S cM_rows l0 (ix l1))) then (if inb ((l2 + (8 : Int32)) + l3) 256 = true then if inb (l2 + l3) 256 = true then some (Sum.inl (l3 + (1 : Int32), up3 S cM_packet l0 (ix (l2 + l3)) (S cM_packet l0 (ix ((l2 + (8 : Int32)) + l3))))) else none else none) else exW (some S) else none
def f_M_take_45 (l0 : Nat) (l1 : Int32) (l2 : Int32)  (q : Int32 × St) : Option (St) := iter (f_M_take_45_b l0 l1 l2) 4096 q
theorem t_M_take_45_b (scr : Nat × (Nat → Int32)) (l0 : Nat) (l1 : Int32) (l2 : Int32) (l3 : Int32) (S : St) (T : St) {x : (Int32 × St) ⊕ (St)} {o : Option iV × SS} (hx : f_M_take_45_b l0 l1 l2 (l3, S) = some x) (hG : (Sum.elim (fun q => EB scr 0 1 0 cd_M_take (45, [some (vR 1 l0), some (vI l1), some (vI l2), some (vI q.1)], []) (T, q.2) o) (fun x => (none, (T, x)) = o)) x) : EB scr 0 1 0 cd_M_take (45, [some (vR 1 l0), some (vI l1), some (vI l2), some (vI l3)], []) (T, S) o := by
  unfold f_M_take_45_b at hx
  dsimp only at hx
  refine ev_steps 5 (c' := (53, [some (vR 1 l0), some (vI l1), some (vI l2), some (vI l3)], [vI l1, vR 76 l0, vI (8 : Int32), vI l3])) (h' := (T, S)) rfl ?_
  obtain ⟨hg, hx⟩ := ifg hx
  refine ev_iald rfl rfl rfl hg ?_
  refine ev_steps 1 (c' := (55, [some (vR 1 l0), some (vI l1), some (vI l2), some (vI l3)], [vI ((8 : Int32) * (S cM_rows l0 (ix l1))), vI l3])) (h' := (T, S)) rfl ?_
  refine ev_icmp_ge rfl (fun hc => ?_) (fun hc => ?_)
  · rw [if_pos hc] at hx
    refine ev_steps 12 (c' := (75, [some (vR 1 l0), some (vI l1), some (vI l2), some (vI l3)], [vI ((l2 + (8 : Int32)) + l3), vR 77 l0, vI (l2 + l3), vR 77 l0])) (h' := (T, S)) rfl ?_
    obtain ⟨hg, hx⟩ := ifg hx
    refine ev_iald rfl rfl rfl hg ?_
    refine ev_steps 0 (c' := (76, [some (vR 1 l0), some (vI l1), some (vI l2), some (vI l3)], [vI (S cM_packet l0 (ix ((l2 + (8 : Int32)) + l3))), vI (l2 + l3), vR 77 l0])) (h' := (T, S)) rfl ?_
    obtain ⟨hg, hx⟩ := ifg hx
    refine ev_iast rfl rfl hg ?_
    refine ev_steps 2 (c' := (45, [some (vR 1 l0), some (vI l1), some (vI l2), some (vI (l3 + (1 : Int32)))], [])) (h' := (T, up3 S cM_packet l0 (ix (l2 + l3)) (S cM_packet l0 (ix ((l2 + (8 : Int32)) + l3))))) rfl ?_
    cases hx
    exact hG
  · rw [if_neg hc] at hx
    obtain ⟨x, hy, rfl⟩ := exW_some hx
    replace hx := hy
    simp only [Sum.elim_inr] at hG
    cases hx
    subst hG
    exact ev_ret rfl rfl
theorem t_M_take_45 (scr : Nat × (Nat → Int32)) (l0 : Nat) (l1 : Int32) (l2 : Int32) (l3 : Int32) (S : St) (T : St) {x : St} {o : Option iV × SS} (hx : f_M_take_45 l0 l1 l2 (l3, S) = some x) (hG : (fun x => (none, (T, x)) = o) x) : EB scr 0 1 0 cd_M_take (45, [some (vR 1 l0), some (vI l1), some (vI l2), some (vI l3)], []) (T, S) o := by
  exact iter_ind (P := fun q => EB scr 0 1 0 cd_M_take (45, [some (vR 1 l0), some (vI l1), some (vI l2), some (vI q.1)], []) (T, q.2) o) (G := fun x => (none, (T, x)) = o) (fun q x hb hP  => t_M_take_45_b scr l0 l1 l2 q.1 q.2 T hb hP) hx hG 
def f_M_take_7_b (l0 : Nat) (l1 : Int32) (l2 : Int32)  : (Int32 × St) → Option ((Int32 × St) ⊕ (St))
  | (l3, S) => if l3 < (8 : Int32) then (if inb (l2 + l3) 256 = true then if inb l3 8 = true then some (Sum.inl (l3 + (1 : Int32), up3 S cM_arrived l0 (ix l3) (S cM_packet l0 (ix (l2 + l3))))) else none else none) else exW (if inb l1 4 = true then if inb l1 4 = true then f_M_take_45 l0 l1 l2 ((0 : Int32), up3 S cM_rows l0 (ix l1) ((S cM_rows l0 (ix l1)) - (1 : Int32))) else none else none)
def f_M_take_7 (l0 : Nat) (l1 : Int32) (l2 : Int32)  (q : Int32 × St) : Option (St) := iter (f_M_take_7_b l0 l1 l2) 4096 q
theorem t_M_take_7_b (scr : Nat × (Nat → Int32)) (l0 : Nat) (l1 : Int32) (l2 : Int32) (l3 : Int32) (S : St) (T : St) {x : (Int32 × St) ⊕ (St)} {o : Option iV × SS} (hx : f_M_take_7_b l0 l1 l2 (l3, S) = some x) (hG : (Sum.elim (fun q => EB scr 0 1 0 cd_M_take (7, [some (vR 1 l0), some (vI l1), some (vI l2), some (vI q.1)], []) (T, q.2) o) (fun x => (none, (T, x)) = o)) x) : EB scr 0 1 0 cd_M_take (7, [some (vR 1 l0), some (vI l1), some (vI l2), some (vI l3)], []) (T, S) o := by
  unfold f_M_take_7_b at hx
  dsimp only at hx
  refine ev_steps 2 (c' := (10, [some (vR 1 l0), some (vI l1), some (vI l2), some (vI l3)], [vI (8 : Int32), vI l3])) (h' := (T, S)) rfl ?_
  refine ev_icmp_ge rfl (fun hc => ?_) (fun hc => ?_)
  · rw [if_pos hc] at hx
    refine ev_steps 8 (c' := (25, [some (vR 1 l0), some (vI l1), some (vI l2), some (vI l3)], [vI (l2 + l3), vR 77 l0, vI l3, vR 78 l0])) (h' := (T, S)) rfl ?_
    obtain ⟨hg, hx⟩ := ifg hx
    refine ev_iald rfl rfl rfl hg ?_
    refine ev_steps 0 (c' := (26, [some (vR 1 l0), some (vI l1), some (vI l2), some (vI l3)], [vI (S cM_packet l0 (ix (l2 + l3))), vI l3, vR 78 l0])) (h' := (T, S)) rfl ?_
    obtain ⟨hg, hx⟩ := ifg hx
    refine ev_iast rfl rfl hg ?_
    refine ev_steps 2 (c' := (7, [some (vR 1 l0), some (vI l1), some (vI l2), some (vI (l3 + (1 : Int32)))], [])) (h' := (T, up3 S cM_arrived l0 (ix l3) (S cM_packet l0 (ix (l2 + l3))))) rfl ?_
    cases hx
    exact hG
  · rw [if_neg hc] at hx
    obtain ⟨x, hy, rfl⟩ := exW_some hx
    replace hx := hy
    simp only [Sum.elim_inr] at hG
    refine ev_steps 4 (c' := (39, [some (vR 1 l0), some (vI l1), some (vI l2), some (vI l3)], [vI l1, vR 76 l0, vI l1, vR 76 l0])) (h' := (T, S)) rfl ?_
    obtain ⟨hg, hx⟩ := ifg hx
    refine ev_iald rfl rfl rfl hg ?_
    refine ev_steps 2 (c' := (42, [some (vR 1 l0), some (vI l1), some (vI l2), some (vI l3)], [vI ((S cM_rows l0 (ix l1)) - (1 : Int32)), vI l1, vR 76 l0])) (h' := (T, S)) rfl ?_
    obtain ⟨hg, hx⟩ := ifg hx
    refine ev_iast rfl rfl hg ?_
    refine ev_steps 2 (c' := (45, [some (vR 1 l0), some (vI l1), some (vI l2), some (vI (0 : Int32))], [])) (h' := (T, up3 S cM_rows l0 (ix l1) ((S cM_rows l0 (ix l1)) - (1 : Int32)))) rfl ?_
    exact t_M_take_45 scr l0 l1 l2 (0 : Int32) (up3 S cM_rows l0 (ix l1) ((S cM_rows l0 (ix l1)) - (1 : Int32))) T hx hG
theorem t_M_take_7 (scr : Nat × (Nat → Int32)) (l0 : Nat) (l1 : Int32) (l2 : Int32) (l3 : Int32) (S : St) (T : St) {x : St} {o : Option iV × SS} (hx : f_M_take_7 l0 l1 l2 (l3, S) = some x) (hG : (fun x => (none, (T, x)) = o) x) : EB scr 0 1 0 cd_M_take (7, [some (vR 1 l0), some (vI l1), some (vI l2), some (vI l3)], []) (T, S) o := by
  exact iter_ind (P := fun q => EB scr 0 1 0 cd_M_take (7, [some (vR 1 l0), some (vI l1), some (vI l2), some (vI q.1)], []) (T, q.2) o) (G := fun x => (none, (T, x)) = o) (fun q x hb hP  => t_M_take_7_b scr l0 l1 l2 q.1 q.2 T hb hP) hx hG 
def f_M_take (u : Nat) (a1 : Int32) (S : St) : Option (St) :=
  f_M_take_7 u a1 ((64 : Int32) * a1) ((0 : Int32), S)
theorem t_M_take (scr : Nat × (Nat → Int32)) (u : Nat) (a1 : Int32) (S T : St) {x : St} {o : Option iV × SS} (hx : f_M_take u a1 S = some x) (hG : (none, (T, x)) = o) : E0 scr 1 35 [vR 1 u, vI a1] (T, S) o := by
  refine ev_meth (ls := [some (vR 1 u), some (vI a1), none, none]) rfl rfl rfl ?_
  unfold f_M_take at hx
  refine ev_steps 6 (c' := (7, [some (vR 1 u), some (vI a1), some (vI ((64 : Int32) * a1)), some (vI (0 : Int32))], [])) (h' := (T, S)) rfl ?_
  exact t_M_take_7 scr u a1 ((64 : Int32) * a1) (0 : Int32) S T hx hG
-- M_alter
def f_M_alter_14 (S : St) : Option (Int32 × St) :=
  some ((0 : Int32), S)
theorem t_M_alter_14 (scr : Nat × (Nat → Int32)) (S : St) (T : St) (d0 d1 d2 d3 d4 d5 : Option iV) {x : Int32 × St} {o : Option iV × SS} (hx : f_M_alter_14 S = some x) (hG : (fun x => (some (vI x.1), (T, x.2)) = o) x) : EB scr 1 1 2 cd_M_alter (14, [d0, d1, d2, d3, d4, d5], []) (T, S) o := by
  unfold f_M_alter_14 at hx
  try dsimp only at hG
  refine ev_steps 1 (c' := (15, [_, _, _, _, _, _], [vI (0 : Int32)])) (h' := (T, S)) rfl ?_
  cases hx
  subst hG
  exact ev_ret rfl rfl
def f_M_alter_49 (S : St) : Option (Int32 × St) :=
  some ((0 : Int32), S)
theorem t_M_alter_49 (scr : Nat × (Nat → Int32)) (S : St) (T : St) (d0 d1 d2 d3 d4 d5 : Option iV) {x : Int32 × St} {o : Option iV × SS} (hx : f_M_alter_49 S = some x) (hG : (fun x => (some (vI x.1), (T, x.2)) = o) x) : EB scr 1 1 2 cd_M_alter (49, [d0, d1, d2, d3, d4, d5], []) (T, S) o := by
  unfold f_M_alter_49 at hx
  try dsimp only at hG
  refine ev_steps 1 (c' := (50, [_, _, _, _, _, _], [vI (0 : Int32)])) (h' := (T, S)) rfl ?_
  cases hx
  subst hG
  exact ev_ret rfl rfl
def f_M_alter_66_b (l0 : Nat) (l4 : Int32)  : (Int32 × St) → Option ((Int32 × St) ⊕ (Int32 × St))
  | (l5, S) => if l5 < (8 : Int32) then (if inb l4 4 = true then if inb (((64 : Int32) * l4) + l5) 256 = true then if inb ((((64 : Int32) * l4) + ((8 : Int32) * (S cM_rows l0 (ix l4)))) + l5) 256 = true then some (Sum.inl (l5 + (1 : Int32), up3 S cM_packet l0 (ix ((((64 : Int32) * l4) + ((8 : Int32) * (S cM_rows l0 (ix l4)))) + l5)) (S cM_packet l0 (ix (((64 : Int32) * l4) + l5))))) else none else none else none) else exW (if inb l4 4 = true then if inb l4 4 = true then some ((1 : Int32), up3 S cM_rows l0 (ix l4) ((S cM_rows l0 (ix l4)) + (1 : Int32))) else none else none)
def f_M_alter_66 (l0 : Nat) (l4 : Int32)  (q : Int32 × St) : Option (Int32 × St) := iter (f_M_alter_66_b l0 l4) 4096 q
theorem t_M_alter_66_b (scr : Nat × (Nat → Int32)) (l0 : Nat) (l4 : Int32) (l5 : Int32) (S : St) (T : St) (d1 d2 d3 : Option iV) {x : (Int32 × St) ⊕ (Int32 × St)} {o : Option iV × SS} (hx : f_M_alter_66_b l0 l4 (l5, S) = some x) (hG : (Sum.elim (fun q => ∀ d1 d2 d3 : Option iV, EB scr 1 1 2 cd_M_alter (66, [some (vR 1 l0), d1, d2, d3, some (vI l4), some (vI q.1)], []) (T, q.2) o) (fun x => (some (vI x.1), (T, x.2)) = o)) x) : EB scr 1 1 2 cd_M_alter (66, [some (vR 1 l0), d1, d2, d3, some (vI l4), some (vI l5)], []) (T, S) o := by
  unfold f_M_alter_66_b at hx
  dsimp only at hx
  refine ev_steps 2 (c' := (70, [some (vR 1 l0), _, _, _, some (vI l4), some (vI l5)], [vI (8 : Int32), vI l5])) (h' := (T, S)) rfl ?_
  refine ev_icmp_ge rfl (fun hc => ?_) (fun hc => ?_)
  · rw [if_pos hc] at hx
    refine ev_steps 9 (c' := (90, [some (vR 1 l0), _, _, _, some (vI l4), some (vI l5)], [vI l4, vR 76 l0, vI (8 : Int32), vI ((64 : Int32) * l4), vR 77 l0])) (h' := (T, S)) rfl ?_
    obtain ⟨hg, hx⟩ := ifg hx
    refine ev_iald rfl rfl rfl hg ?_
    refine ev_steps 11 (c' := (108, [some (vR 1 l0), _, _, _, some (vI l4), some (vI l5)], [vI (((64 : Int32) * l4) + l5), vR 77 l0, vI ((((64 : Int32) * l4) + ((8 : Int32) * (S cM_rows l0 (ix l4)))) + l5), vR 77 l0])) (h' := (T, S)) rfl ?_
    obtain ⟨hg, hx⟩ := ifg hx
    refine ev_iald rfl rfl rfl hg ?_
    refine ev_steps 0 (c' := (109, [some (vR 1 l0), _, _, _, some (vI l4), some (vI l5)], [vI (S cM_packet l0 (ix (((64 : Int32) * l4) + l5))), vI ((((64 : Int32) * l4) + ((8 : Int32) * (S cM_rows l0 (ix l4)))) + l5), vR 77 l0])) (h' := (T, S)) rfl ?_
    obtain ⟨hg, hx⟩ := ifg hx
    refine ev_iast rfl rfl hg ?_
    refine ev_steps 2 (c' := (66, [some (vR 1 l0), _, _, _, some (vI l4), some (vI (l5 + (1 : Int32)))], [])) (h' := (T, up3 S cM_packet l0 (ix ((((64 : Int32) * l4) + ((8 : Int32) * (S cM_rows l0 (ix l4)))) + l5)) (S cM_packet l0 (ix (((64 : Int32) * l4) + l5))))) rfl ?_
    cases hx
    exact hG _ _ _
  · rw [if_neg hc] at hx
    obtain ⟨x, hy, rfl⟩ := exW_some hx
    replace hx := hy
    simp only [Sum.elim_inr] at hG
    refine ev_steps 4 (c' := (123, [some (vR 1 l0), _, _, _, some (vI l4), some (vI l5)], [vI l4, vR 76 l0, vI l4, vR 76 l0])) (h' := (T, S)) rfl ?_
    obtain ⟨hg, hx⟩ := ifg hx
    refine ev_iald rfl rfl rfl hg ?_
    refine ev_steps 2 (c' := (126, [some (vR 1 l0), _, _, _, some (vI l4), some (vI l5)], [vI ((S cM_rows l0 (ix l4)) + (1 : Int32)), vI l4, vR 76 l0])) (h' := (T, S)) rfl ?_
    obtain ⟨hg, hx⟩ := ifg hx
    refine ev_iast rfl rfl hg ?_
    refine ev_steps 1 (c' := (128, [some (vR 1 l0), _, _, _, some (vI l4), some (vI l5)], [vI (1 : Int32)])) (h' := (T, up3 S cM_rows l0 (ix l4) ((S cM_rows l0 (ix l4)) + (1 : Int32)))) rfl ?_
    cases hx
    subst hG
    exact ev_ret rfl rfl
theorem t_M_alter_66 (scr : Nat × (Nat → Int32)) (l0 : Nat) (l4 : Int32) (l5 : Int32) (S : St) (T : St) (d1 d2 d3 : Option iV) {x : Int32 × St} {o : Option iV × SS} (hx : f_M_alter_66 l0 l4 (l5, S) = some x) (hG : (fun x => (some (vI x.1), (T, x.2)) = o) x) : EB scr 1 1 2 cd_M_alter (66, [some (vR 1 l0), d1, d2, d3, some (vI l4), some (vI l5)], []) (T, S) o := by
  exact iter_ind (P := fun q => ∀ d1 d2 d3 : Option iV, EB scr 1 1 2 cd_M_alter (66, [some (vR 1 l0), d1, d2, d3, some (vI l4), some (vI q.1)], []) (T, q.2) o) (G := fun x => (some (vI x.1), (T, x.2)) = o) (fun q x hb hP d1 d2 d3 => t_M_alter_66_b scr l0 l4 q.1 q.2 T d1 d2 d3 hb hP) hx hG d1 d2 d3
def f_M_alter_51 (l0 : Nat) (l3 : Int32) (l4 : Int32) (S : St) : Option (Int32 × St) :=
  if l3 = 0 then (bd (f_M_take l0 l4 S) (fun S212 => some ((1 : Int32), S212))) else f_M_alter_66 l0 l4 ((0 : Int32), S)
theorem t_M_alter_51 (scr : Nat × (Nat → Int32)) (l0 : Nat) (l3 : Int32) (l4 : Int32) (S : St) (T : St) (d1 d2 d5 : Option iV) {x : Int32 × St} {o : Option iV × SS} (hx : f_M_alter_51 l0 l3 l4 S = some x) (hG : (fun x => (some (vI x.1), (T, x.2)) = o) x) : EB scr 1 1 2 cd_M_alter (51, [some (vR 1 l0), d1, d2, some (vI l3), some (vI l4), d5], []) (T, S) o := by
  unfold f_M_alter_51 at hx
  try dsimp only at hG
  refine ev_steps 1 (c' := (52, [some (vR 1 l0), _, _, some (vI l3), some (vI l4), _], [vI l3])) (h' := (T, S)) rfl ?_
  refine ev_if_ne rfl (fun hc => ?_) (fun hc => ?_)
  · rw [if_pos hc] at hx
    refine ev_steps 2 (c' := (58, [some (vR 1 l0), _, _, some (vI l3), some (vI l4), _], [vI l4, vR 1 l0])) (h' := (T, S)) rfl ?_
    obtain ⟨S212, hc, hx⟩ := bd_some hx
    refine ev_call rfl rfl rfl rfl rfl rfl rfl rfl rfl ((t_M_take scr l0 l4 S T hc rfl).mono (by decide)) ?_
    refine ev_steps 1 (c' := (62, [some (vR 1 l0), _, _, some (vI l3), some (vI l4), _], [vI (1 : Int32)])) (h' := (T, S212)) rfl ?_
    cases hx
    subst hG
    exact ev_ret rfl rfl
  · rw [if_neg hc] at hx
    refine ev_steps 2 (c' := (66, [some (vR 1 l0), _, _, some (vI l3), some (vI l4), some (vI (0 : Int32))], [])) (h' := (T, S)) rfl ?_
    exact t_M_alter_66 scr l0 l4 (0 : Int32) S T _ _ _ hx hG
def f_M_alter (u : Nat) (a1 : Int32) (a2 : Int32) (a3 : Int32) (S : St) : Option (Int32 × St) :=
  if (f_M_isTwo a1) = 0 then f_M_alter_14 S else (if (f_M_isTwo a2) = 0 then f_M_alter_14 S else (if inb (((2 : Int32) * a1) + a2) 4 = true then if (S cM_rows u (ix (((2 : Int32) * a1) + a2))) = 0 then f_M_alter_49 S else (if a3 = 0 then f_M_alter_51 u a3 (((2 : Int32) * a1) + a2) S else (if inb (((2 : Int32) * a1) + a2) 4 = true then if (S cM_rows u (ix (((2 : Int32) * a1) + a2))) = (8 : Int32) then f_M_alter_49 S else f_M_alter_51 u a3 (((2 : Int32) * a1) + a2) S else none)) else none))
theorem t_M_alter (scr : Nat × (Nat → Int32)) (u : Nat) (a1 : Int32) (a2 : Int32) (a3 : Int32) (S T : St) {x : Int32 × St} {o : Option iV × SS} (hx : f_M_alter u a1 a2 a3 S = some x) (hG : (some (vI x.1), (T, x.2)) = o) : E0 scr 2 36 [vR 1 u, vI a1, vI a2, vI a3] (T, S) o := by
  refine ev_meth (ls := [some (vR 1 u), some (vI a1), some (vI a2), some (vI a3), none, none]) rfl rfl rfl ?_
  unfold f_M_alter at hx
  refine ev_steps 1 (c' := (1, [some (vR 1 u), some (vI a1), some (vI a2), some (vI a3), none, none], [vI a1])) (h' := (T, S)) rfl ?_
  refine ev_call rfl rfl rfl rfl rfl rfl rfl rfl rfl ((t_M_isTwo scr a1 S T rfl).mono (by decide)) ?_
  refine ev_steps 0 (c' := (4, [some (vR 1 u), some (vI a1), some (vI a2), some (vI a3), none, none], [vI (f_M_isTwo a1)])) (h' := (T, S)) rfl ?_
  refine ev_if_eq rfl (fun hc => ?_) (fun hc => ?_)
  · rw [if_pos hc] at hx
    exact t_M_alter_14 scr S T _ _ _ _ _ _ hx hG
  · rw [if_neg hc] at hx
    refine ev_steps 1 (c' := (8, [some (vR 1 u), some (vI a1), some (vI a2), some (vI a3), none, none], [vI a2])) (h' := (T, S)) rfl ?_
    refine ev_call rfl rfl rfl rfl rfl rfl rfl rfl rfl ((t_M_isTwo scr a2 S T rfl).mono (by decide)) ?_
    refine ev_steps 0 (c' := (11, [some (vR 1 u), some (vI a1), some (vI a2), some (vI a3), none, none], [vI (f_M_isTwo a2)])) (h' := (T, S)) rfl ?_
    refine ev_if_ne rfl (fun hc => ?_) (fun hc => ?_)
    · rw [if_pos hc] at hx
      exact t_M_alter_14 scr S T _ _ _ _ _ _ hx hG
    · rw [if_neg hc] at hx
      refine ev_steps 9 (c' := (29, [some (vR 1 u), some (vI a1), some (vI a2), some (vI a3), some (vI (((2 : Int32) * a1) + a2)), none], [vI (((2 : Int32) * a1) + a2), vR 76 u])) (h' := (T, S)) rfl ?_
      obtain ⟨hg, hx⟩ := ifg hx
      refine ev_iald rfl rfl rfl hg ?_
      refine ev_steps 0 (c' := (30, [some (vR 1 u), some (vI a1), some (vI a2), some (vI a3), some (vI (((2 : Int32) * a1) + a2)), none], [vI (S cM_rows u (ix (((2 : Int32) * a1) + a2)))])) (h' := (T, S)) rfl ?_
      refine ev_if_eq rfl (fun hc => ?_) (fun hc => ?_)
      · rw [if_pos hc] at hx
        exact t_M_alter_49 scr S T _ _ _ _ _ _ hx hG
      · rw [if_neg hc] at hx
        refine ev_steps 1 (c' := (34, [some (vR 1 u), some (vI a1), some (vI a2), some (vI a3), some (vI (((2 : Int32) * a1) + a2)), none], [vI a3])) (h' := (T, S)) rfl ?_
        refine ev_if_eq rfl (fun hc => ?_) (fun hc => ?_)
        · rw [if_pos hc] at hx
          exact t_M_alter_51 scr u a3 (((2 : Int32) * a1) + a2) S T _ _ _ hx hG
        · rw [if_neg hc] at hx
          refine ev_steps 3 (c' := (43, [some (vR 1 u), some (vI a1), some (vI a2), some (vI a3), some (vI (((2 : Int32) * a1) + a2)), none], [vI (((2 : Int32) * a1) + a2), vR 76 u])) (h' := (T, S)) rfl ?_
          obtain ⟨hg, hx⟩ := ifg hx
          refine ev_iald rfl rfl rfl hg ?_
          refine ev_steps 1 (c' := (46, [some (vR 1 u), some (vI a1), some (vI a2), some (vI a3), some (vI (((2 : Int32) * a1) + a2)), none], [vI (8 : Int32), vI (S cM_rows u (ix (((2 : Int32) * a1) + a2)))])) (h' := (T, S)) rfl ?_
          refine ev_icmp_ne rfl (fun hc => ?_) (fun hc => ?_)
          · rw [if_pos hc] at hx
            exact t_M_alter_49 scr S T _ _ _ _ _ _ hx hG
          · rw [if_neg hc] at hx
            exact t_M_alter_51 scr u a3 (((2 : Int32) * a1) + a2) S T _ _ _ hx hG
