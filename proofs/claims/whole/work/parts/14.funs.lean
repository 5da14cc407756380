/-! Methods as functions on the store, printed by a program. -/
-- End_takeData
def f_End_takeData (u : Nat) (a1 : Int32) (u2 : Nat) (S : St) : Option (St) :=
  bd (f_Inbox_take u u2 S) (fun S124 => bd2 (f_End_post u a1 (5 : Int32) S124) (fun r125 S126 => bd (f_Inbox_gaps u (up3 S126 cPacket_number r125 0 (S126 cInbox_latest u 0))) (fun r127 => some (up3 (up3 (up3 S126 cPacket_number r125 0 (S126 cInbox_latest u 0)) cPacket_gaps r125 0 r127) cPacket_window r125 0 (f_Inbox_window u (up3 (up3 S126 cPacket_number r125 0 (S126 cInbox_latest u 0)) cPacket_gaps r125 0 r127))))))
theorem t_End_takeData (scr : Nat × (Nat → Int32)) (u : Nat) (a1 : Int32) (u2 : Nat) (S T : St) {x : St} {o : Option iV × SS} (hx : f_End_takeData u a1 u2 S = some x) (hG : (none, (x, T)) = o) : E0 scr 5 94 [vR 3 u, vI a1, vR 12 u2] (S, T) o := by
  refine ev_meth (ls := [some (vR 3 u), some (vI a1), some (vR 12 u2), none]) rfl rfl rfl ?_
  unfold f_End_takeData at hx
  refine ev_steps 3 (c' := (5, [some (vR 3 u), some (vI a1), some (vR 12 u2), none], [vR 12 u2, vR 4 u])) (h' := (S, T)) rfl ?_
  obtain ⟨S124, hc, hx⟩ := bd_some hx
  refine ev_call rfl rfl rfl rfl rfl rfl rfl rfl rfl ((t_Inbox_take scr u u2 S T hc rfl).mono (by decide)) ?_
  refine ev_steps 3 (c' := (11, [some (vR 3 u), some (vI a1), some (vR 12 u2), none], [vI (5 : Int32), vI a1, vR 3 u])) (h' := (S124, T)) rfl ?_
  obtain ⟨r125, S126, hc, hx⟩ := bd2_some hx
  refine ev_call rfl rfl rfl rfl rfl rfl rfl rfl rfl ((t_End_post scr u a1 (5 : Int32) S124 T hc rfl).mono (by decide)) ?_
  refine ev_steps 9 (c' := (31, [some (vR 3 u), some (vI a1), some (vR 12 u2), some (vR 6 r125)], [vR 4 u, vR 6 r125])) (h' := (up3 S126 cPacket_number r125 0 (S126 cInbox_latest u 0), T)) rfl ?_
  obtain ⟨r127, hc, hx⟩ := bd_some hx
  refine ev_call rfl rfl rfl rfl rfl rfl rfl rfl rfl ((t_Inbox_gaps scr u (up3 S126 cPacket_number r125 0 (S126 cInbox_latest u 0)) T hc rfl).mono (by decide)) ?_
  refine ev_steps 4 (c' := (42, [some (vR 3 u), some (vI a1), some (vR 12 u2), some (vR 6 r125)], [vR 4 u, vR 6 r125])) (h' := (up3 (up3 S126 cPacket_number r125 0 (S126 cInbox_latest u 0)) cPacket_gaps r125 0 r127, T)) rfl ?_
  refine ev_call rfl rfl rfl rfl rfl rfl rfl rfl rfl ((t_Inbox_window scr u (up3 (up3 S126 cPacket_number r125 0 (S126 cInbox_latest u 0)) cPacket_gaps r125 0 r127) T rfl).mono (by decide)) ?_
  refine ev_steps 1 (c' := (48, [some (vR 3 u), some (vI a1), some (vR 12 u2), some (vR 6 r125)], [])) (h' := (up3 (up3 (up3 S126 cPacket_number r125 0 (S126 cInbox_latest u 0)) cPacket_gaps r125 0 r127) cPacket_window r125 0 (f_Inbox_window u (up3 (up3 S126 cPacket_number r125 0 (S126 cInbox_latest u 0)) cPacket_gaps r125 0 r127)), T)) rfl ?_
  cases hx
  subst hG
  exact ev_ret rfl rfl
-- End_takeWhenUp
def f_End_takeWhenUp (u : Nat) (a1 : Int32) (u2 : Nat) (a3 : Int32) (S : St) : Option (St) :=
  if (S cPacket_kind u2 0) = (4 : Int32) then (bd (f_End_takeData u a1 u2 S) (fun S130 => some S130)) else (if (S cPacket_kind u2 0) = (5 : Int32) then (bd (f_End_takeSack u u2 a3 S) (fun S132 => some S132)) else (if (S cPacket_kind u2 0) = (6 : Int32) then (bd2 (f_End_post u a1 (7 : Int32) S) (fun r133 S134 => some (up3 S134 cPacket_tick r133 0 (S134 cPacket_tick u2 0)))) else (if (S cPacket_kind u2 0) = (7 : Int32) then (if inb a1 2 = true then some (f_End_takeBeatAck u (2 * u + ix a1) (S cPacket_tick u2 0) S) else none) else (if (S cPacket_kind u2 0) = (8 : Int32) then (bd (f_End_close u (3 : Int32) S) (fun S136 => some S136)) else some S))))
theorem t_End_takeWhenUp (scr : Nat × (Nat → Int32)) (u : Nat) (a1 : Int32) (u2 : Nat) (a3 : Int32) (S T : St) {x : St} {o : Option iV × SS} (hx : f_End_takeWhenUp u a1 u2 a3 S = some x) (hG : (none, (x, T)) = o) : E0 scr 7 85 [vR 3 u, vI a1, vR 6 u2, vI a3] (S, T) o := by
  refine ev_meth (ls := [some (vR 3 u), some (vI a1), some (vR 6 u2), some (vI a3)]) rfl rfl rfl ?_
  unfold f_End_takeWhenUp at hx
  refine ev_steps 2 (c' := (4, [some (vR 3 u), some (vI a1), some (vR 6 u2), some (vI a3)], [vI (S cPacket_kind u2 0)])) (h' := (S, T)) rfl ?_
  by_cases hc : (S cPacket_kind u2 0) = (4 : Int32)
  · rw [if_pos hc] at hx
    refine ev_swk (t := 40) rfl hc (by decide) ?_
    refine ev_steps 4 (c' := (46, [some (vR 3 u), some (vI a1), some (vR 6 u2), some (vI a3)], [vR 12 u2, vI a1, vR 3 u])) (h' := (S, T)) rfl ?_
    obtain ⟨S130, hc, hx⟩ := bd_some hx
    refine ev_call rfl rfl rfl rfl rfl rfl rfl rfl rfl ((t_End_takeData scr u a1 u2 S T hc rfl).mono (by decide)) ?_
    refine ev_steps 1 (c' := (103, [some (vR 3 u), some (vI a1), some (vR 6 u2), some (vI a3)], [])) (h' := (S130, T)) rfl ?_
    cases hx
    subst hG
    exact ev_ret rfl rfl
  rw [if_neg hc] at hx
  have hn4 := hc
  clear hc
  by_cases hc : (S cPacket_kind u2 0) = (5 : Int32)
  · rw [if_pos hc] at hx
    refine ev_swk (t := 52) rfl hc (by decide) ?_
    refine ev_steps 3 (c' := (55, [some (vR 3 u), some (vI a1), some (vR 6 u2), some (vI a3)], [vI a3, vR 6 u2, vR 3 u])) (h' := (S, T)) rfl ?_
    obtain ⟨S132, hc, hx⟩ := bd_some hx
    refine ev_call rfl rfl rfl rfl rfl rfl rfl rfl rfl ((t_End_takeSack scr u u2 a3 S T hc rfl).mono (by decide)) ?_
    refine ev_steps 1 (c' := (103, [some (vR 3 u), some (vI a1), some (vR 6 u2), some (vI a3)], [])) (h' := (S132, T)) rfl ?_
    cases hx
    subst hG
    exact ev_ret rfl rfl
  rw [if_neg hc] at hx
  have hn5 := hc
  clear hc
  by_cases hc : (S cPacket_kind u2 0) = (6 : Int32)
  · rw [if_pos hc] at hx
    refine ev_swk (t := 61) rfl hc (by decide) ?_
    refine ev_steps 3 (c' := (65, [some (vR 3 u), some (vI a1), some (vR 6 u2), some (vI a3)], [vI (7 : Int32), vI a1, vR 3 u])) (h' := (S, T)) rfl ?_
    obtain ⟨r133, S134, hc, hx⟩ := bd2_some hx
    refine ev_call rfl rfl rfl rfl rfl rfl rfl rfl rfl ((t_End_post scr u a1 (7 : Int32) S T hc rfl).mono (by decide)) ?_
    refine ev_steps 4 (c' := (103, [some (vR 3 u), some (vI a1), some (vR 6 u2), some (vI a3)], [])) (h' := (up3 S134 cPacket_tick r133 0 (S134 cPacket_tick u2 0), T)) rfl ?_
    cases hx
    subst hG
    exact ev_ret rfl rfl
  rw [if_neg hc] at hx
  have hn6 := hc
  clear hc
  by_cases hc : (S cPacket_kind u2 0) = (7 : Int32)
  · rw [if_pos hc] at hx
    refine ev_swk (t := 78) rfl hc (by decide) ?_
    refine ev_steps 4 (c' := (84, [some (vR 3 u), some (vI a1), some (vR 6 u2), some (vI a3)], [vI a1, vR 67 u, vR 3 u])) (h' := (S, T)) rfl ?_
    obtain ⟨hg, hx⟩ := ifg hx
    refine ev_aald3 rfl rfl hg ?_
    refine ev_steps 2 (c' := (89, [some (vR 3 u), some (vI a1), some (vR 6 u2), some (vI a3)], [vI (S cPacket_tick u2 0), vR 7 (2 * u + ix a1), vR 3 u])) (h' := (S, T)) rfl ?_
    refine ev_call rfl rfl rfl rfl rfl rfl rfl rfl rfl ((t_End_takeBeatAck scr u (2 * u + ix a1) (S cPacket_tick u2 0) S T rfl).mono (by decide)) ?_
    refine ev_steps 1 (c' := (103, [some (vR 3 u), some (vI a1), some (vR 6 u2), some (vI a3)], [])) (h' := ((f_End_takeBeatAck u (2 * u + ix a1) (S cPacket_tick u2 0) S), T)) rfl ?_
    cases hx
    subst hG
    exact ev_ret rfl rfl
  rw [if_neg hc] at hx
  have hn7 := hc
  clear hc
  by_cases hc : (S cPacket_kind u2 0) = (8 : Int32)
  · rw [if_pos hc] at hx
    refine ev_swk (t := 95) rfl hc (by decide) ?_
    refine ev_steps 2 (c' := (97, [some (vR 3 u), some (vI a1), some (vR 6 u2), some (vI a3)], [vI (3 : Int32), vR 3 u])) (h' := (S, T)) rfl ?_
    obtain ⟨S136, hc, hx⟩ := bd_some hx
    refine ev_call rfl rfl rfl rfl rfl rfl rfl rfl rfl ((t_End_close scr u (3 : Int32) S T hc rfl).mono (by decide)) ?_
    refine ev_steps 1 (c' := (103, [some (vR 3 u), some (vI a1), some (vR 6 u2), some (vI a3)], [])) (h' := (S136, T)) rfl ?_
    cases hx
    subst hG
    exact ev_ret rfl rfl
  rw [if_neg hc] at hx
  have hn8 := hc
  clear hc
  refine ev_swd rfl (And.intro (sw_ne hn4 rfl) (And.intro (sw_ne hn5 rfl) (And.intro (sw_ne hn6 rfl) (And.intro (sw_ne hn7 rfl) (And.intro (sw_ne hn8 rfl) (True.intro)))))) ?_
  cases hx
  subst hG
  exact ev_ret rfl rfl
-- L_deliver
def f_L_deliver_14 (S : St) : Option (Int32 × St) :=
  some ((-1 : Int32), S)
theorem t_L_deliver_14 (scr : Nat × (Nat → Int32)) (S : St) (T : St) (d0 d1 d2 d3 d4 d5 d6 : Option iV) {x : Int32 × St} {o : Option iV × SS} (hx : f_L_deliver_14 S = some x) (hG : (fun x => (some (vI x.1), (x.2, T)) = o) x) : EB scr 7 0 1 cd_L_deliver (14, [d0, d1, d2, d3, d4, d5, d6], []) (S, T) o := by
  unfold f_L_deliver_14 at hx
  try dsimp only at hG
  refine ev_steps 1 (c' := (15, [_, _, _, _, _, _, _], [vI (-1 : Int32)])) (h' := (S, T)) rfl ?_
  cases hx
  subst hG
  exact ev_ret rfl rfl
def f_L_deliver_119 (l4 : Nat) (S : St) : Option (Int32 × St) :=
  some (S cPacket_kind l4 0, S)
theorem t_L_deliver_119 (scr : Nat × (Nat → Int32)) (l4 : Nat) (S : St) (T : St) (d0 d1 d2 d3 d5 d6 : Option iV) {x : Int32 × St} {o : Option iV × SS} (hx : f_L_deliver_119 l4 S = some x) (hG : (fun x => (some (vI x.1), (x.2, T)) = o) x) : EB scr 7 0 1 cd_L_deliver (119, [d0, d1, d2, d3, some (vR 6 l4), d5, d6], []) (S, T) o := by
  unfold f_L_deliver_119 at hx
  try dsimp only at hG
  refine ev_steps 2 (c' := (124, [_, _, _, _, some (vR 6 l4), _, _], [vI (S cPacket_kind l4 0)])) (h' := (S, T)) rfl ?_
  cases hx
  subst hG
  exact ev_ret rfl rfl
def f_L_deliver (u : Nat) (a1 : Int32) (a2 : Int32) (S : St) : Option (Int32 × St) :=
  if (f_L_isEnd a1) = 0 then f_L_deliver_14 S else (if (f_L_isPath a2) = 0 then f_L_deliver_14 S else (if inb a1 2 = true then if inb a2 2 = true then if (S cRow_count (2 * (ix a1) + ix a2) 0) = 0 then some ((-1 : Int32), S) else (bd (f_Row_oldest (2 * (ix a1) + ix a2) S) (fun r137 => if inb ((1 : Int32) - a1) 2 = true then if (3 : Int32) < ((f_Row_removeOldest (2 * (ix a1) + ix a2) S) cPacket_kind r137 0) then (if ((f_Row_removeOldest (2 * (ix a1) + ix a2) S) cEnd_state (ix ((1 : Int32) - a1)) 0) = (3 : Int32) then (if ((f_Row_removeOldest (2 * (ix a1) + ix a2) S) cPacket_tag r137 0) = ((f_Row_removeOldest (2 * (ix a1) + ix a2) S) cEnd_ownTag (ix ((1 : Int32) - a1)) 0) then (bd (f_End_takeWhenUp (ix ((1 : Int32) - a1)) a2 r137 ((f_Row_removeOldest (2 * (ix a1) + ix a2) S) cL_now u 0) (f_Row_removeOldest (2 * (ix a1) + ix a2) S)) (fun S140 => f_L_deliver_119 r137 S140)) else f_L_deliver_119 r137 (f_Row_removeOldest (2 * (ix a1) + ix a2) S)) else f_L_deliver_119 r137 (f_Row_removeOldest (2 * (ix a1) + ix a2) S)) else (bd (f_L_takeMaking u ((1 : Int32) - a1) a2 r137 (f_Row_removeOldest (2 * (ix a1) + ix a2) S)) (fun S142 => f_L_deliver_119 r137 S142)) else none)) else none else none))
theorem t_L_deliver (scr : Nat × (Nat → Int32)) (u : Nat) (a1 : Int32) (a2 : Int32) (S T : St) {x : Int32 × St} {o : Option iV × SS} (hx : f_L_deliver u a1 a2 S = some x) (hG : (some (vI x.1), (x.2, T)) = o) : E0 scr 8 4 [vR 0 u, vI a1, vI a2] (S, T) o := by
  refine ev_meth (ls := [some (vR 0 u), some (vI a1), some (vI a2), none, none, none, none]) rfl rfl rfl ?_
  unfold f_L_deliver at hx
  refine ev_steps 1 (c' := (1, [some (vR 0 u), some (vI a1), some (vI a2), none, none, none, none], [vI a1])) (h' := (S, T)) rfl ?_
  refine ev_call rfl rfl rfl rfl rfl rfl rfl rfl rfl ((t_L_isEnd scr a1 S T rfl).mono (by decide)) ?_
  refine ev_steps 0 (c' := (4, [some (vR 0 u), some (vI a1), some (vI a2), none, none, none, none], [vI (f_L_isEnd a1)])) (h' := (S, T)) rfl ?_
  refine ev_if_eq rfl (fun hc => ?_) (fun hc => ?_)
  · rw [if_pos hc] at hx
    exact t_L_deliver_14 scr S T _ _ _ _ _ _ _ hx hG
  · rw [if_neg hc] at hx
    refine ev_steps 1 (c' := (8, [some (vR 0 u), some (vI a1), some (vI a2), none, none, none, none], [vI a2])) (h' := (S, T)) rfl ?_
    refine ev_call rfl rfl rfl rfl rfl rfl rfl rfl rfl ((t_L_isPath scr a2 S T rfl).mono (by decide)) ?_
    refine ev_steps 0 (c' := (11, [some (vR 0 u), some (vI a1), some (vI a2), none, none, none, none], [vI (f_L_isPath a2)])) (h' := (S, T)) rfl ?_
    refine ev_if_ne rfl (fun hc => ?_) (fun hc => ?_)
    · rw [if_pos hc] at hx
      exact t_L_deliver_14 scr S T _ _ _ _ _ _ _ hx hG
    · rw [if_neg hc] at hx
      refine ev_steps 3 (c' := (21, [some (vR 0 u), some (vI a1), some (vI a2), none, none, none, none], [vI a1, vR 64 u])) (h' := (S, T)) rfl ?_
      obtain ⟨hg, hx⟩ := ifg hx
      refine ev_aald2 rfl rfl hg ?_
      refine ev_steps 2 (c' := (26, [some (vR 0 u), some (vI a1), some (vI a2), none, none, none, none], [vI a2, vR 67 (ix a1)])) (h' := (S, T)) rfl ?_
      obtain ⟨hg, hx⟩ := ifg hx
      refine ev_aald3 rfl rfl hg ?_
      refine ev_steps 4 (c' := (35, [some (vR 0 u), some (vI a1), some (vI a2), some (vR 9 (2 * (ix a1) + ix a2)), none, none, none], [vI (S cRow_count (2 * (ix a1) + ix a2) 0)])) (h' := (S, T)) rfl ?_
      refine ev_if_ne rfl (fun hc => ?_) (fun hc => ?_)
      · rw [if_pos hc] at hx
        refine ev_steps 1 (c' := (39, [some (vR 0 u), some (vI a1), some (vI a2), some (vR 9 (2 * (ix a1) + ix a2)), none, none, none], [vI (-1 : Int32)])) (h' := (S, T)) rfl ?_
        cases hx
        subst hG
        exact ev_ret rfl rfl
      · rw [if_neg hc] at hx
        refine ev_steps 1 (c' := (41, [some (vR 0 u), some (vI a1), some (vI a2), some (vR 9 (2 * (ix a1) + ix a2)), none, none, none], [vR 9 (2 * (ix a1) + ix a2)])) (h' := (S, T)) rfl ?_
        obtain ⟨r137, hc, hx⟩ := bd_some hx
        refine ev_call rfl rfl rfl rfl rfl rfl rfl rfl rfl ((t_Row_oldest scr (2 * (ix a1) + ix a2) S T hc rfl).mono (by decide)) ?_
        refine ev_steps 2 (c' := (47, [some (vR 0 u), some (vI a1), some (vI a2), some (vR 9 (2 * (ix a1) + ix a2)), some (vR 6 r137), none, none], [vR 9 (2 * (ix a1) + ix a2)])) (h' := (S, T)) rfl ?_
        refine ev_call rfl rfl rfl rfl rfl rfl rfl rfl rfl ((t_Row_removeOldest scr (2 * (ix a1) + ix a2) S T rfl).mono (by decide)) ?_
        refine ev_steps 7 (c' := (61, [some (vR 0 u), some (vI a1), some (vI a2), some (vR 9 (2 * (ix a1) + ix a2)), some (vR 6 r137), some (vI ((1 : Int32) - a1)), none], [vI ((1 : Int32) - a1), vR 64 u])) (h' := ((f_Row_removeOldest (2 * (ix a1) + ix a2) S), T)) rfl ?_
        obtain ⟨hg, hx⟩ := ifg hx
        refine ev_aald2 rfl rfl hg ?_
        refine ev_steps 4 (c' := (70, [some (vR 0 u), some (vI a1), some (vI a2), some (vR 9 (2 * (ix a1) + ix a2)), some (vR 6 r137), some (vI ((1 : Int32) - a1)), some (vR 3 (ix ((1 : Int32) - a1)))], [vI (3 : Int32), vI ((f_Row_removeOldest (2 * (ix a1) + ix a2) S) cPacket_kind r137 0)])) (h' := ((f_Row_removeOldest (2 * (ix a1) + ix a2) S), T)) rfl ?_
        refine ev_icmp_gt rfl (fun hc => ?_) (fun hc => ?_)
        · rw [if_pos hc] at hx
          refine ev_steps 3 (c' := (91, [some (vR 0 u), some (vI a1), some (vI a2), some (vR 9 (2 * (ix a1) + ix a2)), some (vR 6 r137), some (vI ((1 : Int32) - a1)), some (vR 3 (ix ((1 : Int32) - a1)))], [vI (3 : Int32), vI ((f_Row_removeOldest (2 * (ix a1) + ix a2) S) cEnd_state (ix ((1 : Int32) - a1)) 0)])) (h' := ((f_Row_removeOldest (2 * (ix a1) + ix a2) S), T)) rfl ?_
          refine ev_icmp_ne rfl (fun hc => ?_) (fun hc => ?_)
          · rw [if_pos hc] at hx
            refine ev_steps 4 (c' := (104, [some (vR 0 u), some (vI a1), some (vI a2), some (vR 9 (2 * (ix a1) + ix a2)), some (vR 6 r137), some (vI ((1 : Int32) - a1)), some (vR 3 (ix ((1 : Int32) - a1)))], [vI ((f_Row_removeOldest (2 * (ix a1) + ix a2) S) cEnd_ownTag (ix ((1 : Int32) - a1)) 0), vI ((f_Row_removeOldest (2 * (ix a1) + ix a2) S) cPacket_tag r137 0)])) (h' := ((f_Row_removeOldest (2 * (ix a1) + ix a2) S), T)) rfl ?_
            refine ev_icmp_ne rfl (fun hc => ?_) (fun hc => ?_)
            · rw [if_pos hc] at hx
              refine ev_steps 5 (c' := (116, [some (vR 0 u), some (vI a1), some (vI a2), some (vR 9 (2 * (ix a1) + ix a2)), some (vR 6 r137), some (vI ((1 : Int32) - a1)), some (vR 3 (ix ((1 : Int32) - a1)))], [vI ((f_Row_removeOldest (2 * (ix a1) + ix a2) S) cL_now u 0), vR 6 r137, vI a2, vR 3 (ix ((1 : Int32) - a1))])) (h' := ((f_Row_removeOldest (2 * (ix a1) + ix a2) S), T)) rfl ?_
              obtain ⟨S140, hc, hx⟩ := bd_some hx
              refine ev_call rfl rfl rfl rfl rfl rfl rfl rfl rfl ((t_End_takeWhenUp scr (ix ((1 : Int32) - a1)) a2 r137 ((f_Row_removeOldest (2 * (ix a1) + ix a2) S) cL_now u 0) (f_Row_removeOldest (2 * (ix a1) + ix a2) S) T hc rfl).mono (by decide)) ?_
              refine ev_steps 0 (c' := (119, [some (vR 0 u), some (vI a1), some (vI a2), some (vR 9 (2 * (ix a1) + ix a2)), some (vR 6 r137), some (vI ((1 : Int32) - a1)), some (vR 3 (ix ((1 : Int32) - a1)))], [])) (h' := (S140, T)) rfl ?_
              exact t_L_deliver_119 scr r137 S140 T _ _ _ _ _ _ hx hG
            · rw [if_neg hc] at hx
              exact t_L_deliver_119 scr r137 (f_Row_removeOldest (2 * (ix a1) + ix a2) S) T _ _ _ _ _ _ hx hG
          · rw [if_neg hc] at hx
            exact t_L_deliver_119 scr r137 (f_Row_removeOldest (2 * (ix a1) + ix a2) S) T _ _ _ _ _ _ hx hG
        · rw [if_neg hc] at hx
          refine ev_steps 4 (c' := (79, [some (vR 0 u), some (vI a1), some (vI a2), some (vR 9 (2 * (ix a1) + ix a2)), some (vR 6 r137), some (vI ((1 : Int32) - a1)), some (vR 3 (ix ((1 : Int32) - a1)))], [vR 6 r137, vI a2, vI ((1 : Int32) - a1), vR 0 u])) (h' := ((f_Row_removeOldest (2 * (ix a1) + ix a2) S), T)) rfl ?_
          obtain ⟨S142, hc, hx⟩ := bd_some hx
          refine ev_call rfl rfl rfl rfl rfl rfl rfl rfl rfl ((t_L_takeMaking scr u ((1 : Int32) - a1) a2 r137 (f_Row_removeOldest (2 * (ix a1) + ix a2) S) T hc rfl).mono (by decide)) ?_
          refine ev_steps 1 (c' := (119, [some (vR 0 u), some (vI a1), some (vI a2), some (vR 9 (2 * (ix a1) + ix a2)), some (vR 6 r137), some (vI ((1 : Int32) - a1)), some (vR 3 (ix ((1 : Int32) - a1)))], [])) (h' := (S142, T)) rfl ?_
          exact t_L_deliver_119 scr r137 S142 T _ _ _ _ _ _ hx hG
-- Packet_copyFrom
def f_Packet_copyFrom (u : Nat) (u1 : Nat) (S : St) : St :=
  up3 (up3 (up3 (up3 (f_Word_copyFrom u u1 (f_Cookie_copyFrom u u1 (up3 (up3 (up3 S cPacket_kind u 0 (S cPacket_kind u1 0)) cPacket_tag u 0 (S cPacket_tag u1 0)) cPacket_newTag u 0 (S cPacket_newTag u1 0)))) cPacket_number u 0 ((f_Word_copyFrom u u1 (f_Cookie_copyFrom u u1 (up3 (up3 (up3 S cPacket_kind u 0 (S cPacket_kind u1 0)) cPacket_tag u 0 (S cPacket_tag u1 0)) cPacket_newTag u 0 (S cPacket_newTag u1 0)))) cPacket_number u1 0)) cPacket_gaps u 0 ((f_Word_copyFrom u u1 (f_Cookie_copyFrom u u1 (up3 (up3 (up3 S cPacket_kind u 0 (S cPacket_kind u1 0)) cPacket_tag u 0 (S cPacket_tag u1 0)) cPacket_newTag u 0 (S cPacket_newTag u1 0)))) cPacket_gaps u1 0)) cPacket_window u 0 ((f_Word_copyFrom u u1 (f_Cookie_copyFrom u u1 (up3 (up3 (up3 S cPacket_kind u 0 (S cPacket_kind u1 0)) cPacket_tag u 0 (S cPacket_tag u1 0)) cPacket_newTag u 0 (S cPacket_newTag u1 0)))) cPacket_window u1 0)) cPacket_tick u 0 ((f_Word_copyFrom u u1 (f_Cookie_copyFrom u u1 (up3 (up3 (up3 S cPacket_kind u 0 (S cPacket_kind u1 0)) cPacket_tag u 0 (S cPacket_tag u1 0)) cPacket_newTag u 0 (S cPacket_newTag u1 0)))) cPacket_tick u1 0)
theorem t_Packet_copyFrom (scr : Nat × (Nat → Int32)) (u : Nat) (u1 : Nat) (S T : St) {o : Option iV × SS} (hG : (none, ((f_Packet_copyFrom u u1 S), T)) = o) : E0 scr 2 134 [vR 6 u, vR 6 u1] (S, T) o := by
  refine ev_meth (ls := [some (vR 6 u), some (vR 6 u1)]) rfl rfl rfl ?_
  unfold f_Packet_copyFrom at hG
  refine ev_steps 16 (c' := (32, [some (vR 6 u), some (vR 6 u1)], [vR 2 u1, vR 2 u])) (h' := (up3 (up3 (up3 S cPacket_kind u 0 (S cPacket_kind u1 0)) cPacket_tag u 0 (S cPacket_tag u1 0)) cPacket_newTag u 0 (S cPacket_newTag u1 0), T)) rfl ?_
  refine ev_call rfl rfl rfl rfl rfl rfl rfl rfl rfl ((t_Cookie_copyFrom scr u u1 (up3 (up3 (up3 S cPacket_kind u 0 (S cPacket_kind u1 0)) cPacket_tag u 0 (S cPacket_tag u1 0)) cPacket_newTag u 0 (S cPacket_newTag u1 0)) T rfl).mono (by decide)) ?_
  refine ev_steps 4 (c' := (43, [some (vR 6 u), some (vR 6 u1)], [vR 12 u1, vR 12 u])) (h' := ((f_Cookie_copyFrom u u1 (up3 (up3 (up3 S cPacket_kind u 0 (S cPacket_kind u1 0)) cPacket_tag u 0 (S cPacket_tag u1 0)) cPacket_newTag u 0 (S cPacket_newTag u1 0))), T)) rfl ?_
  refine ev_call rfl rfl rfl rfl rfl rfl rfl rfl rfl ((t_Word_copyFrom scr u u1 (f_Cookie_copyFrom u u1 (up3 (up3 (up3 S cPacket_kind u 0 (S cPacket_kind u1 0)) cPacket_tag u 0 (S cPacket_tag u1 0)) cPacket_newTag u 0 (S cPacket_newTag u1 0))) T rfl).mono (by decide)) ?_
  refine ev_steps 16 (c' := (78, [some (vR 6 u), some (vR 6 u1)], [])) (h' := (up3 (up3 (up3 (up3 (f_Word_copyFrom u u1 (f_Cookie_copyFrom u u1 (up3 (up3 (up3 S cPacket_kind u 0 (S cPacket_kind u1 0)) cPacket_tag u 0 (S cPacket_tag u1 0)) cPacket_newTag u 0 (S cPacket_newTag u1 0)))) cPacket_number u 0 ((f_Word_copyFrom u u1 (f_Cookie_copyFrom u u1 (up3 (up3 (up3 S cPacket_kind u 0 (S cPacket_kind u1 0)) cPacket_tag u 0 (S cPacket_tag u1 0)) cPacket_newTag u 0 (S cPacket_newTag u1 0)))) cPacket_number u1 0)) cPacket_gaps u 0 ((f_Word_copyFrom u u1 (f_Cookie_copyFrom u u1 (up3 (up3 (up3 S cPacket_kind u 0 (S cPacket_kind u1 0)) cPacket_tag u 0 (S cPacket_tag u1 0)) cPacket_newTag u 0 (S cPacket_newTag u1 0)))) cPacket_gaps u1 0)) cPacket_window u 0 ((f_Word_copyFrom u u1 (f_Cookie_copyFrom u u1 (up3 (up3 (up3 S cPacket_kind u 0 (S cPacket_kind u1 0)) cPacket_tag u 0 (S cPacket_tag u1 0)) cPacket_newTag u 0 (S cPacket_newTag u1 0)))) cPacket_window u1 0)) cPacket_tick u 0 ((f_Word_copyFrom u u1 (f_Cookie_copyFrom u u1 (up3 (up3 (up3 S cPacket_kind u 0 (S cPacket_kind u1 0)) cPacket_tag u 0 (S cPacket_tag u1 0)) cPacket_newTag u 0 (S cPacket_newTag u1 0)))) cPacket_tick u1 0), T)) rfl ?_
  subst hG
  exact ev_ret rfl rfl
-- L_alter
def f_L_alter_14 (S : St) : Option (Int32 × St) :=
  some ((0 : Int32), S)
theorem t_L_alter_14 (scr : Nat × (Nat → Int32)) (S : St) (T : St) (d0 d1 d2 d3 d4 : Option iV) {x : Int32 × St} {o : Option iV × SS} (hx : f_L_alter_14 S = some x) (hG : (fun x => (some (vI x.1), (x.2, T)) = o) x) : EB scr 2 0 2 cd_L_alter (14, [d0, d1, d2, d3, d4], []) (S, T) o := by
  unfold f_L_alter_14 at hx
  try dsimp only at hG
  refine ev_steps 1 (c' := (15, [_, _, _, _, _], [vI (0 : Int32)])) (h' := (S, T)) rfl ?_
  cases hx
  subst hG
  exact ev_ret rfl rfl
def f_L_alter_52 (S : St) : Option (Int32 × St) :=
  some ((0 : Int32), S)
theorem t_L_alter_52 (scr : Nat × (Nat → Int32)) (S : St) (T : St) (d0 d1 d2 d3 d4 : Option iV) {x : Int32 × St} {o : Option iV × SS} (hx : f_L_alter_52 S = some x) (hG : (fun x => (some (vI x.1), (x.2, T)) = o) x) : EB scr 2 0 2 cd_L_alter (52, [d0, d1, d2, d3, d4], []) (S, T) o := by
  unfold f_L_alter_52 at hx
  try dsimp only at hG
  refine ev_steps 1 (c' := (53, [_, _, _, _, _], [vI (0 : Int32)])) (h' := (S, T)) rfl ?_
  cases hx
  subst hG
  exact ev_ret rfl rfl
def f_L_alter_79 (S : St) : Option (Int32 × St) :=
  some ((1 : Int32), S)
theorem t_L_alter_79 (scr : Nat × (Nat → Int32)) (S : St) (T : St) (d0 d1 d2 d3 d4 : Option iV) {x : Int32 × St} {o : Option iV × SS} (hx : f_L_alter_79 S = some x) (hG : (fun x => (some (vI x.1), (x.2, T)) = o) x) : EB scr 2 0 2 cd_L_alter (79, [d0, d1, d2, d3, d4], []) (S, T) o := by
  unfold f_L_alter_79 at hx
  try dsimp only at hG
  refine ev_steps 1 (c' := (80, [_, _, _, _, _], [vI (1 : Int32)])) (h' := (S, T)) rfl ?_
  cases hx
  subst hG
  exact ev_ret rfl rfl
def f_L_alter_54 (l3 : Int32) (l4 : Nat) (S : St) : Option (Int32 × St) :=
  if l3 = 0 then f_L_alter_79 (f_Row_removeOldest l4 S) else (bd2 (f_Row_addNew l4 S) (fun r143 S144 => bd (f_Row_oldest l4 S144) (fun r145 => f_L_alter_79 (f_Packet_copyFrom r143 r145 S144))))
theorem t_L_alter_54 (scr : Nat × (Nat → Int32)) (l3 : Int32) (l4 : Nat) (S : St) (T : St) (d0 d1 d2 : Option iV) {x : Int32 × St} {o : Option iV × SS} (hx : f_L_alter_54 l3 l4 S = some x) (hG : (fun x => (some (vI x.1), (x.2, T)) = o) x) : EB scr 2 0 2 cd_L_alter (54, [d0, d1, d2, some (vI l3), some (vR 9 l4)], []) (S, T) o := by
  unfold f_L_alter_54 at hx
  try dsimp only at hG
  refine ev_steps 1 (c' := (55, [_, _, _, some (vI l3), some (vR 9 l4)], [vI l3])) (h' := (S, T)) rfl ?_
  refine ev_if_eq rfl (fun hc => ?_) (fun hc => ?_)
  · rw [if_pos hc] at hx
    refine ev_steps 1 (c' := (76, [_, _, _, some (vI l3), some (vR 9 l4)], [vR 9 l4])) (h' := (S, T)) rfl ?_
    refine ev_call rfl rfl rfl rfl rfl rfl rfl rfl rfl ((t_Row_removeOldest scr l4 S T rfl).mono (by decide)) ?_
    refine ev_steps 0 (c' := (79, [_, _, _, some (vI l3), some (vR 9 l4)], [])) (h' := ((f_Row_removeOldest l4 S), T)) rfl ?_
    exact t_L_alter_79 scr (f_Row_removeOldest l4 S) T _ _ _ _ _ hx hG
  · rw [if_neg hc] at hx
    refine ev_steps 1 (c' := (60, [_, _, _, some (vI l3), some (vR 9 l4)], [vR 9 l4])) (h' := (S, T)) rfl ?_
    obtain ⟨r143, S144, hc, hx⟩ := bd2_some hx
    refine ev_call rfl rfl rfl rfl rfl rfl rfl rfl rfl ((t_Row_addNew scr l4 S T hc rfl).mono (by decide)) ?_
    refine ev_steps 1 (c' := (65, [_, _, _, some (vI l3), some (vR 9 l4)], [vR 9 l4, vR 6 r143])) (h' := (S144, T)) rfl ?_
    obtain ⟨r145, hc, hx⟩ := bd_some hx
    refine ev_call rfl rfl rfl rfl rfl rfl rfl rfl rfl ((t_Row_oldest scr l4 S144 T hc rfl).mono (by decide)) ?_
    refine ev_steps 0 (c' := (68, [_, _, _, some (vI l3), some (vR 9 l4)], [vR 6 r145, vR 6 r143])) (h' := (S144, T)) rfl ?_
    refine ev_call rfl rfl rfl rfl rfl rfl rfl rfl rfl ((t_Packet_copyFrom scr r143 r145 S144 T rfl).mono (by decide)) ?_
    refine ev_steps 1 (c' := (79, [_, _, _, some (vI l3), some (vR 9 l4)], [])) (h' := ((f_Packet_copyFrom r143 r145 S144), T)) rfl ?_
    exact t_L_alter_79 scr (f_Packet_copyFrom r143 r145 S144) T _ _ _ _ _ hx hG
def f_L_alter (u : Nat) (a1 : Int32) (a2 : Int32) (a3 : Int32) (S : St) : Option (Int32 × St) :=
  if (f_L_isEnd a1) = 0 then f_L_alter_14 S else (if (f_L_isPath a2) = 0 then f_L_alter_14 S else (if inb a1 2 = true then if inb a2 2 = true then if (S cRow_count (2 * (ix a1) + ix a2) 0) = 0 then f_L_alter_52 S else (if a3 = 0 then f_L_alter_54 a3 (2 * (ix a1) + ix a2) S else (if (f_Row_isFull (2 * (ix a1) + ix a2) S) = 0 then f_L_alter_54 a3 (2 * (ix a1) + ix a2) S else f_L_alter_52 S)) else none else none))
theorem t_L_alter (scr : Nat × (Nat → Int32)) (u : Nat) (a1 : Int32) (a2 : Int32) (a3 : Int32) (S T : St) {x : Int32 × St} {o : Option iV × SS} (hx : f_L_alter u a1 a2 a3 S = some x) (hG : (some (vI x.1), (x.2, T)) = o) : E0 scr 3 5 [vR 0 u, vI a1, vI a2, vI a3] (S, T) o := by
  refine ev_meth (ls := [some (vR 0 u), some (vI a1), some (vI a2), some (vI a3), none]) rfl rfl rfl ?_
  unfold f_L_alter at hx
  refine ev_steps 1 (c' := (1, [some (vR 0 u), some (vI a1), some (vI a2), some (vI a3), none], [vI a1])) (h' := (S, T)) rfl ?_
  refine ev_call rfl rfl rfl rfl rfl rfl rfl rfl rfl ((t_L_isEnd scr a1 S T rfl).mono (by decide)) ?_
  refine ev_steps 0 (c' := (4, [some (vR 0 u), some (vI a1), some (vI a2), some (vI a3), none], [vI (f_L_isEnd a1)])) (h' := (S, T)) rfl ?_
  refine ev_if_eq rfl (fun hc => ?_) (fun hc => ?_)
  · rw [if_pos hc] at hx
    exact t_L_alter_14 scr S T _ _ _ _ _ hx hG
  · rw [if_neg hc] at hx
    refine ev_steps 1 (c' := (8, [some (vR 0 u), some (vI a1), some (vI a2), some (vI a3), none], [vI a2])) (h' := (S, T)) rfl ?_
    refine ev_call rfl rfl rfl rfl rfl rfl rfl rfl rfl ((t_L_isPath scr a2 S T rfl).mono (by decide)) ?_
    refine ev_steps 0 (c' := (11, [some (vR 0 u), some (vI a1), some (vI a2), some (vI a3), none], [vI (f_L_isPath a2)])) (h' := (S, T)) rfl ?_
    refine ev_if_ne rfl (fun hc => ?_) (fun hc => ?_)
    · rw [if_pos hc] at hx
      exact t_L_alter_14 scr S T _ _ _ _ _ hx hG
    · rw [if_neg hc] at hx
      refine ev_steps 3 (c' := (21, [some (vR 0 u), some (vI a1), some (vI a2), some (vI a3), none], [vI a1, vR 64 u])) (h' := (S, T)) rfl ?_
      obtain ⟨hg, hx⟩ := ifg hx
      refine ev_aald2 rfl rfl hg ?_
      refine ev_steps 2 (c' := (26, [some (vR 0 u), some (vI a1), some (vI a2), some (vI a3), none], [vI a2, vR 67 (ix a1)])) (h' := (S, T)) rfl ?_
      obtain ⟨hg, hx⟩ := ifg hx
      refine ev_aald3 rfl rfl hg ?_
      refine ev_steps 4 (c' := (37, [some (vR 0 u), some (vI a1), some (vI a2), some (vI a3), some (vR 9 (2 * (ix a1) + ix a2))], [vI (S cRow_count (2 * (ix a1) + ix a2) 0)])) (h' := (S, T)) rfl ?_
      refine ev_if_eq rfl (fun hc => ?_) (fun hc => ?_)
      · rw [if_pos hc] at hx
        exact t_L_alter_52 scr S T _ _ _ _ _ hx hG
      · rw [if_neg hc] at hx
        refine ev_steps 1 (c' := (41, [some (vR 0 u), some (vI a1), some (vI a2), some (vI a3), some (vR 9 (2 * (ix a1) + ix a2))], [vI a3])) (h' := (S, T)) rfl ?_
        refine ev_if_eq rfl (fun hc => ?_) (fun hc => ?_)
        · rw [if_pos hc] at hx
          exact t_L_alter_54 scr a3 (2 * (ix a1) + ix a2) S T _ _ _ hx hG
        · rw [if_neg hc] at hx
          refine ev_steps 1 (c' := (46, [some (vR 0 u), some (vI a1), some (vI a2), some (vI a3), some (vR 9 (2 * (ix a1) + ix a2))], [vR 9 (2 * (ix a1) + ix a2)])) (h' := (S, T)) rfl ?_
          refine ev_call rfl rfl rfl rfl rfl rfl rfl rfl rfl ((t_Row_isFull scr (2 * (ix a1) + ix a2) S T rfl).mono (by decide)) ?_
          refine ev_steps 0 (c' := (49, [some (vR 0 u), some (vI a1), some (vI a2), some (vI a3), some (vR 9 (2 * (ix a1) + ix a2))], [vI (f_Row_isFull (2 * (ix a1) + ix a2) S)])) (h' := (S, T)) rfl ?_
          refine ev_if_eq rfl (fun hc => ?_) (fun hc => ?_)
          · rw [if_pos hc] at hx
            exact t_L_alter_54 scr a3 (2 * (ix a1) + ix a2) S T _ _ _ hx hG
          · rw [if_neg hc] at hx
            exact t_L_alter_52 scr S T _ _ _ _ _ hx hG
-- L_forge
def f_L_forge_22 (S : St) : Option (Int32 × St) :=
  some ((0 : Int32), S)
theorem t_L_forge_22 (scr : Nat × (Nat → Int32)) (S : St) (T : St) (d0 d1 d2 d3 d4 d5 d6 d7 d8 d9 : Option iV) {x : Int32 × St} {o : Option iV × SS} (hx : f_L_forge_22 S = some x) (hG : (fun x => (some (vI x.1), (x.2, T)) = o) x) : EB scr 3 0 2 cd_L_forge (22, [d0, d1, d2, d3, d4, d5, d6, d7, d8, d9], []) (S, T) o := by
  unfold f_L_forge_22 at hx
  try dsimp only at hG
  refine ev_steps 1 (c' := (23, [_, _, _, _, _, _, _, _, _, _], [vI (0 : Int32)])) (h' := (S, T)) rfl ?_
  cases hx
  subst hG
  exact ev_ret rfl rfl
def f_L_forge_91 (l4 : Int32) (l5 : Int32) (l6 : Int32) (l7 : Int32) (l9 : Nat) (s0 : Nat) (s1 : Int32) (S : St) : Option (Int32 × St) :=
  some ((1 : Int32), (f_Cookie_set l9 l4 l5 l6 l7 (up3 (up3 S cPacket_tag s0 0 s1) cPacket_newTag l9 0 l4)))
theorem t_L_forge_91 (scr : Nat × (Nat → Int32)) (l4 : Int32) (l5 : Int32) (l6 : Int32) (l7 : Int32) (l9 : Nat) (s0 : Nat) (s1 : Int32) (S : St) (T : St) (d0 d1 d2 d3 d8 : Option iV) {x : Int32 × St} {o : Option iV × SS} (hx : f_L_forge_91 l4 l5 l6 l7 l9 s0 s1 S = some x) (hG : (fun x => (some (vI x.1), (x.2, T)) = o) x) : EB scr 3 0 2 cd_L_forge (91, [d0, d1, d2, d3, some (vI l4), some (vI l5), some (vI l6), some (vI l7), d8, some (vR 6 l9)], [vI s1, vR 6 s0]) (S, T) o := by
  unfold f_L_forge_91 at hx
  try dsimp only at hG
  refine ev_steps 10 (c' := (114, [_, _, _, _, some (vI l4), some (vI l5), some (vI l6), some (vI l7), _, some (vR 6 l9)], [vI l7, vI l6, vI l5, vI l4, vR 2 l9])) (h' := (up3 (up3 S cPacket_tag s0 0 s1) cPacket_newTag l9 0 l4, T)) rfl ?_
  refine ev_call rfl rfl rfl rfl rfl rfl rfl rfl rfl ((t_Cookie_set scr l9 l4 l5 l6 l7 (up3 (up3 S cPacket_tag s0 0 s1) cPacket_newTag l9 0 l4) T rfl).mono (by decide)) ?_
  refine ev_steps 1 (c' := (118, [_, _, _, _, some (vI l4), some (vI l5), some (vI l6), some (vI l7), _, some (vR 6 l9)], [vI (1 : Int32)])) (h' := ((f_Cookie_set l9 l4 l5 l6 l7 (up3 (up3 S cPacket_tag s0 0 s1) cPacket_newTag l9 0 l4)), T)) rfl ?_
  cases hx
  subst hG
  exact ev_ret rfl rfl
def f_L_forge_43 (l0 : Nat) (l1 : Int32) (l2 : Int32) (l3 : Int32) (l4 : Int32) (l5 : Int32) (l6 : Int32) (l7 : Int32) (S : St) : Option (Int32 × St) :=
  if inb ((1 : Int32) - l1) 2 = true then if inb (0 : Int32) 2 = true then if (f_Row_isFull (2 * (ix ((1 : Int32) - l1)) + ix (0 : Int32)) S) = 0 then (bd2 (f_End_post (ix ((1 : Int32) - l1)) (0 : Int32) l2 S) (fun r147 S148 => if l2 = 0 then f_L_forge_91 l4 l5 l6 l7 r147 r147 (0 : Int32) S148 else f_L_forge_91 l4 l5 l6 l7 r147 r147 l3 S148)) else some ((0 : Int32), S) else none else none
theorem t_L_forge_43 (scr : Nat × (Nat → Int32)) (l0 : Nat) (l1 : Int32) (l2 : Int32) (l3 : Int32) (l4 : Int32) (l5 : Int32) (l6 : Int32) (l7 : Int32) (S : St) (T : St) (d8 d9 : Option iV) {x : Int32 × St} {o : Option iV × SS} (hx : f_L_forge_43 l0 l1 l2 l3 l4 l5 l6 l7 S = some x) (hG : (fun x => (some (vI x.1), (x.2, T)) = o) x) : EB scr 3 0 2 cd_L_forge (43, [some (vR 0 l0), some (vI l1), some (vI l2), some (vI l3), some (vI l4), some (vI l5), some (vI l6), some (vI l7), d8, d9], []) (S, T) o := by
  unfold f_L_forge_43 at hx
  try dsimp only at hG
  refine ev_steps 5 (c' := (50, [some (vR 0 l0), some (vI l1), some (vI l2), some (vI l3), some (vI l4), some (vI l5), some (vI l6), some (vI l7), _, _], [vI ((1 : Int32) - l1), vR 64 l0])) (h' := (S, T)) rfl ?_
  obtain ⟨hg, hx⟩ := ifg hx
  refine ev_aald2 rfl rfl hg ?_
  refine ev_steps 4 (c' := (59, [some (vR 0 l0), some (vI l1), some (vI l2), some (vI l3), some (vI l4), some (vI l5), some (vI l6), some (vI l7), some (vR 3 (ix ((1 : Int32) - l1))), _], [vI (0 : Int32), vR 67 (ix ((1 : Int32) - l1))])) (h' := (S, T)) rfl ?_
  obtain ⟨hg, hx⟩ := ifg hx
  refine ev_aald3 rfl rfl hg ?_
  refine ev_steps 1 (c' := (63, [some (vR 0 l0), some (vI l1), some (vI l2), some (vI l3), some (vI l4), some (vI l5), some (vI l6), some (vI l7), some (vR 3 (ix ((1 : Int32) - l1))), _], [vR 9 (2 * (ix ((1 : Int32) - l1)) + ix (0 : Int32))])) (h' := (S, T)) rfl ?_
  refine ev_call rfl rfl rfl rfl rfl rfl rfl rfl rfl ((t_Row_isFull scr (2 * (ix ((1 : Int32) - l1)) + ix (0 : Int32)) S T rfl).mono (by decide)) ?_
  refine ev_steps 0 (c' := (66, [some (vR 0 l0), some (vI l1), some (vI l2), some (vI l3), some (vI l4), some (vI l5), some (vI l6), some (vI l7), some (vR 3 (ix ((1 : Int32) - l1))), _], [vI (f_Row_isFull (2 * (ix ((1 : Int32) - l1)) + ix (0 : Int32)) S)])) (h' := (S, T)) rfl ?_
  refine ev_if_eq rfl (fun hc => ?_) (fun hc => ?_)
  · rw [if_pos hc] at hx
    refine ev_steps 3 (c' := (75, [some (vR 0 l0), some (vI l1), some (vI l2), some (vI l3), some (vI l4), some (vI l5), some (vI l6), some (vI l7), some (vR 3 (ix ((1 : Int32) - l1))), _], [vI l2, vI (0 : Int32), vR 3 (ix ((1 : Int32) - l1))])) (h' := (S, T)) rfl ?_
    obtain ⟨r147, S148, hc, hx⟩ := bd2_some hx
    refine ev_call rfl rfl rfl rfl rfl rfl rfl rfl rfl ((t_End_post scr (ix ((1 : Int32) - l1)) (0 : Int32) l2 S T hc rfl).mono (by decide)) ?_
    refine ev_steps 3 (c' := (83, [some (vR 0 l0), some (vI l1), some (vI l2), some (vI l3), some (vI l4), some (vI l5), some (vI l6), some (vI l7), some (vR 3 (ix ((1 : Int32) - l1))), some (vR 6 r147)], [vI l2, vR 6 r147])) (h' := (S148, T)) rfl ?_
    refine ev_if_ne rfl (fun hc => ?_) (fun hc => ?_)
    · rw [if_pos hc] at hx
      refine ev_steps 2 (c' := (91, [some (vR 0 l0), some (vI l1), some (vI l2), some (vI l3), some (vI l4), some (vI l5), some (vI l6), some (vI l7), some (vR 3 (ix ((1 : Int32) - l1))), some (vR 6 r147)], [vI (0 : Int32), vR 6 r147])) (h' := (S148, T)) rfl ?_
      exact t_L_forge_91 scr l4 l5 l6 l7 r147 r147 (0 : Int32) S148 T _ _ _ _ _ hx hG
    · rw [if_neg hc] at hx
      refine ev_steps 1 (c' := (91, [some (vR 0 l0), some (vI l1), some (vI l2), some (vI l3), some (vI l4), some (vI l5), some (vI l6), some (vI l7), some (vR 3 (ix ((1 : Int32) - l1))), some (vR 6 r147)], [vI l3, vR 6 r147])) (h' := (S148, T)) rfl ?_
      exact t_L_forge_91 scr l4 l5 l6 l7 r147 r147 l3 S148 T _ _ _ _ _ hx hG
  · rw [if_neg hc] at hx
    refine ev_steps 1 (c' := (70, [some (vR 0 l0), some (vI l1), some (vI l2), some (vI l3), some (vI l4), some (vI l5), some (vI l6), some (vI l7), some (vR 3 (ix ((1 : Int32) - l1))), _], [vI (0 : Int32)])) (h' := (S, T)) rfl ?_
    cases hx
    subst hG
    exact ev_ret rfl rfl
def f_L_forge_24 (l0 : Nat) (l1 : Int32) (l2 : Int32) (l3 : Int32) (l4 : Int32) (l5 : Int32) (l6 : Int32) (l7 : Int32) (S : St) : Option (Int32 × St) :=
  if l2 = 0 then f_L_forge_43 l0 l1 l2 l3 l4 l5 l6 l7 S else (if inb l1 2 = true then if l3 = (S cEnd_ownTag (ix l1) 0) then some ((0 : Int32), S) else f_L_forge_43 l0 l1 l2 l3 l4 l5 l6 l7 S else none)
theorem t_L_forge_24 (scr : Nat × (Nat → Int32)) (l0 : Nat) (l1 : Int32) (l2 : Int32) (l3 : Int32) (l4 : Int32) (l5 : Int32) (l6 : Int32) (l7 : Int32) (S : St) (T : St) (d8 d9 : Option iV) {x : Int32 × St} {o : Option iV × SS} (hx : f_L_forge_24 l0 l1 l2 l3 l4 l5 l6 l7 S = some x) (hG : (fun x => (some (vI x.1), (x.2, T)) = o) x) : EB scr 3 0 2 cd_L_forge (24, [some (vR 0 l0), some (vI l1), some (vI l2), some (vI l3), some (vI l4), some (vI l5), some (vI l6), some (vI l7), d8, d9], []) (S, T) o := by
  unfold f_L_forge_24 at hx
  try dsimp only at hG
  refine ev_steps 1 (c' := (25, [some (vR 0 l0), some (vI l1), some (vI l2), some (vI l3), some (vI l4), some (vI l5), some (vI l6), some (vI l7), _, _], [vI l2])) (h' := (S, T)) rfl ?_
  refine ev_if_eq rfl (fun hc => ?_) (fun hc => ?_)
  · rw [if_pos hc] at hx
    exact t_L_forge_43 scr l0 l1 l2 l3 l4 l5 l6 l7 S T _ _ hx hG
  · rw [if_neg hc] at hx
    refine ev_steps 4 (c' := (34, [some (vR 0 l0), some (vI l1), some (vI l2), some (vI l3), some (vI l4), some (vI l5), some (vI l6), some (vI l7), _, _], [vI l1, vR 64 l0, vI l3])) (h' := (S, T)) rfl ?_
    obtain ⟨hg, hx⟩ := ifg hx
    refine ev_aald2 rfl rfl hg ?_
    refine ev_steps 1 (c' := (38, [some (vR 0 l0), some (vI l1), some (vI l2), some (vI l3), some (vI l4), some (vI l5), some (vI l6), some (vI l7), _, _], [vI (S cEnd_ownTag (ix l1) 0), vI l3])) (h' := (S, T)) rfl ?_
    refine ev_icmp_ne rfl (fun hc => ?_) (fun hc => ?_)
    · rw [if_pos hc] at hx
      refine ev_steps 1 (c' := (42, [some (vR 0 l0), some (vI l1), some (vI l2), some (vI l3), some (vI l4), some (vI l5), some (vI l6), some (vI l7), _, _], [vI (0 : Int32)])) (h' := (S, T)) rfl ?_
      cases hx
      subst hG
      exact ev_ret rfl rfl
    · rw [if_neg hc] at hx
      exact t_L_forge_43 scr l0 l1 l2 l3 l4 l5 l6 l7 S T _ _ hx hG
def f_L_forge (u : Nat) (a1 : Int32) (a2 : Int32) (a3 : Int32) (a4 : Int32) (a5 : Int32) (a6 : Int32) (a7 : Int32) (S : St) : Option (Int32 × St) :=
  if (f_L_isEnd a1) = 0 then f_L_forge_22 S else (if a2 = 0 then f_L_forge_24 u a1 a2 a3 a4 a5 a6 a7 S else (if a2 = (2 : Int32) then f_L_forge_24 u a1 a2 a3 a4 a5 a6 a7 S else (if a2 = (8 : Int32) then f_L_forge_24 u a1 a2 a3 a4 a5 a6 a7 S else f_L_forge_22 S)))
theorem t_L_forge (scr : Nat × (Nat → Int32)) (u : Nat) (a1 : Int32) (a2 : Int32) (a3 : Int32) (a4 : Int32) (a5 : Int32) (a6 : Int32) (a7 : Int32) (S T : St) {x : Int32 × St} {o : Option iV × SS} (hx : f_L_forge u a1 a2 a3 a4 a5 a6 a7 S = some x) (hG : (some (vI x.1), (x.2, T)) = o) : E0 scr 4 6 [vR 0 u, vI a1, vI a2, vI a3, vI a4, vI a5, vI a6, vI a7] (S, T) o := by
  refine ev_meth (ls := [some (vR 0 u), some (vI a1), some (vI a2), some (vI a3), some (vI a4), some (vI a5), some (vI a6), some (vI a7), none, none]) rfl rfl rfl ?_
  unfold f_L_forge at hx
  refine ev_steps 1 (c' := (1, [some (vR 0 u), some (vI a1), some (vI a2), some (vI a3), some (vI a4), some (vI a5), some (vI a6), some (vI a7), none, none], [vI a1])) (h' := (S, T)) rfl ?_
  refine ev_call rfl rfl rfl rfl rfl rfl rfl rfl rfl ((t_L_isEnd scr a1 S T rfl).mono (by decide)) ?_
  refine ev_steps 0 (c' := (4, [some (vR 0 u), some (vI a1), some (vI a2), some (vI a3), some (vI a4), some (vI a5), some (vI a6), some (vI a7), none, none], [vI (f_L_isEnd a1)])) (h' := (S, T)) rfl ?_
  refine ev_if_eq rfl (fun hc => ?_) (fun hc => ?_)
  · rw [if_pos hc] at hx
    exact t_L_forge_22 scr S T _ _ _ _ _ _ _ _ _ _ hx hG
  · rw [if_neg hc] at hx
    refine ev_steps 1 (c' := (8, [some (vR 0 u), some (vI a1), some (vI a2), some (vI a3), some (vI a4), some (vI a5), some (vI a6), some (vI a7), none, none], [vI a2])) (h' := (S, T)) rfl ?_
    refine ev_if_eq rfl (fun hc => ?_) (fun hc => ?_)
    · rw [if_pos hc] at hx
      exact t_L_forge_24 scr u a1 a2 a3 a4 a5 a6 a7 S T _ _ hx hG
    · rw [if_neg hc] at hx
      refine ev_steps 2 (c' := (13, [some (vR 0 u), some (vI a1), some (vI a2), some (vI a3), some (vI a4), some (vI a5), some (vI a6), some (vI a7), none, none], [vI (2 : Int32), vI a2])) (h' := (S, T)) rfl ?_
      refine ev_icmp_eq rfl (fun hc => ?_) (fun hc => ?_)
      · rw [if_pos hc] at hx
        exact t_L_forge_24 scr u a1 a2 a3 a4 a5 a6 a7 S T _ _ hx hG
      · rw [if_neg hc] at hx
        refine ev_steps 2 (c' := (19, [some (vR 0 u), some (vI a1), some (vI a2), some (vI a3), some (vI a4), some (vI a5), some (vI a6), some (vI a7), none, none], [vI (8 : Int32), vI a2])) (h' := (S, T)) rfl ?_
        refine ev_icmp_eq rfl (fun hc => ?_) (fun hc => ?_)
        · rw [if_pos hc] at hx
          exact t_L_forge_24 scr u a1 a2 a3 a4 a5 a6 a7 S T _ _ hx hG
        · rw [if_neg hc] at hx
          exact t_L_forge_22 scr S T _ _ _ _ _ _ _ _ _ _ hx hG
-- End_tryAgain
def f_End_tryAgain (u : Nat) (a1 : Int32) (S : St) : Option (St) :=
  if (S cEnd_tries u 0) < (S cEnd_limit u 0) then (bd (f_End_postOpening u (iRem ((up3 S cEnd_tries u 0 ((S cEnd_tries u 0) + (1 : Int32))) cEnd_tries u 0) (2 : Int32)) (up3 (up3 S cEnd_tries u 0 ((S cEnd_tries u 0) + (1 : Int32))) cEnd_tryDue u 0 (a1 + (3 : Int32)))) (fun S150 => some S150)) else (bd (f_End_close u (2 : Int32) S) (fun S152 => some S152))
theorem t_End_tryAgain (scr : Nat × (Nat → Int32)) (u : Nat) (a1 : Int32) (S T : St) {x : St} {o : Option iV × SS} (hx : f_End_tryAgain u a1 S = some x) (hG : (none, (x, T)) = o) : E0 scr 5 92 [vR 3 u, vI a1] (S, T) o := by
  refine ev_meth (ls := [some (vR 3 u), some (vI a1)]) rfl rfl rfl ?_
  unfold f_End_tryAgain at hx
  refine ev_steps 4 (c' := (8, [some (vR 3 u), some (vI a1)], [vI (S cEnd_limit u 0), vI (S cEnd_tries u 0)])) (h' := (S, T)) rfl ?_
  refine ev_icmp_lt rfl (fun hc => ?_) (fun hc => ?_)
  · rw [if_pos hc] at hx
    refine ev_steps 16 (c' := (41, [some (vR 3 u), some (vI a1)], [vI (iRem ((up3 S cEnd_tries u 0 ((S cEnd_tries u 0) + (1 : Int32))) cEnd_tries u 0) (2 : Int32)), vR 3 u])) (h' := (up3 (up3 S cEnd_tries u 0 ((S cEnd_tries u 0) + (1 : Int32))) cEnd_tryDue u 0 (a1 + (3 : Int32)), T)) rfl ?_
    obtain ⟨S150, hc, hx⟩ := bd_some hx
    refine ev_call rfl rfl rfl rfl rfl rfl rfl rfl rfl ((t_End_postOpening scr u (iRem ((up3 S cEnd_tries u 0 ((S cEnd_tries u 0) + (1 : Int32))) cEnd_tries u 0) (2 : Int32)) (up3 (up3 S cEnd_tries u 0 ((S cEnd_tries u 0) + (1 : Int32))) cEnd_tryDue u 0 (a1 + (3 : Int32))) T hc rfl).mono (by decide)) ?_
    refine ev_steps 0 (c' := (44, [some (vR 3 u), some (vI a1)], [])) (h' := (S150, T)) rfl ?_
    cases hx
    subst hG
    exact ev_ret rfl rfl
  · rw [if_neg hc] at hx
    refine ev_steps 2 (c' := (13, [some (vR 3 u), some (vI a1)], [vI (2 : Int32), vR 3 u])) (h' := (S, T)) rfl ?_
    obtain ⟨S152, hc, hx⟩ := bd_some hx
    refine ev_call rfl rfl rfl rfl rfl rfl rfl rfl rfl ((t_End_close scr u (2 : Int32) S T hc rfl).mono (by decide)) ?_
    refine ev_steps 0 (c' := (16, [some (vR 3 u), some (vI a1)], [])) (h' := (S152, T)) rfl ?_
    cases hx
    subst hG
    exact ev_ret rfl rfl
-- Outbox_markAllOut
def f_Outbox_markAllOut_46 (l0 : Nat) (l1 : Int32) (l2 : Int32) (S : St) : Option ((Int32 × St) ⊕ (St)) :=
  some (Sum.inl (l2 + (1 : Int32), S))
theorem t_Outbox_markAllOut_46 (scr : Nat × (Nat → Int32)) (l0 : Nat) (l1 : Int32) (l2 : Int32) (S : St) (T : St) {x : (Int32 × St) ⊕ (St)} {o : Option iV × SS} (hx : f_Outbox_markAllOut_46 l0 l1 l2 S = some x) (hG : (Sum.elim (fun q => EB scr 2 5 0 cd_Outbox_markAllOut (5, [some (vR 5 l0), some (vI l1), some (vI q.1)], []) (q.2, T) o) (fun x => (none, (x, T)) = o)) x) : EB scr 2 5 0 cd_Outbox_markAllOut (46, [some (vR 5 l0), some (vI l1), some (vI l2)], []) (S, T) o := by
  unfold f_Outbox_markAllOut_46 at hx
  try dsimp only at hG
  refine ev_steps 2 (c' := (5, [some (vR 5 l0), some (vI l1), some (vI (l2 + (1 : Int32)))], [])) (h' := (S, T)) rfl ?_
  cases hx
  exact hG
def f_Outbox_markAllOut_5_b (l0 : Nat) (l1 : Int32)  : (Int32 × St) → Option ((Int32 × St) ⊕ (St))
  | (l2, S) => if l2 < (S cOutbox_nextNumber l0 0) then (bd (f_Outbox_at l0 l2) (fun r153 => if (S cSentWord_state r153 0) = (2 : Int32) then (bd (f_Outbox_at l0 l2) (fun r155 => if (S cSentWord_lastPath r155 0) = l1 then (bd (f_Outbox_at l0 l2) (fun r157 => f_Outbox_markAllOut_46 l0 l1 l2 (up3 S cSentWord_state r157 0 (3 : Int32)))) else f_Outbox_markAllOut_46 l0 l1 l2 S)) else f_Outbox_markAllOut_46 l0 l1 l2 S)) else exW (some S)
def f_Outbox_markAllOut_5 (l0 : Nat) (l1 : Int32)  (q : Int32 × St) : Option (St) := iter (f_Outbox_markAllOut_5_b l0 l1) 4096 q
theorem t_Outbox_markAllOut_5_b (scr : Nat × (Nat → Int32)) (l0 : Nat) (l1 : Int32) (l2 : Int32) (S : St) (T : St) {x : (Int32 × St) ⊕ (St)} {o : Option iV × SS} (hx : f_Outbox_markAllOut_5_b l0 l1 (l2, S) = some x) (hG : (Sum.elim (fun q => EB scr 2 5 0 cd_Outbox_markAllOut (5, [some (vR 5 l0), some (vI l1), some (vI q.1)], []) (q.2, T) o) (fun x => (none, (x, T)) = o)) x) : EB scr 2 5 0 cd_Outbox_markAllOut (5, [some (vR 5 l0), some (vI l1), some (vI l2)], []) (S, T) o := by
  unfold f_Outbox_markAllOut_5_b at hx
  dsimp only at hx
  refine ev_steps 3 (c' := (10, [some (vR 5 l0), some (vI l1), some (vI l2)], [vI (S cOutbox_nextNumber l0 0), vI l2])) (h' := (S, T)) rfl ?_
  refine ev_icmp_ge rfl (fun hc => ?_) (fun hc => ?_)
  · rw [if_pos hc] at hx
    refine ev_steps 2 (c' := (15, [some (vR 5 l0), some (vI l1), some (vI l2)], [vI l2, vR 5 l0])) (h' := (S, T)) rfl ?_
    obtain ⟨r153, hc, hx⟩ := bd_some hx
    refine ev_call rfl rfl rfl rfl rfl rfl rfl rfl rfl ((t_Outbox_at scr l0 l2 S T hc rfl).mono (by decide)) ?_
    refine ev_steps 2 (c' := (22, [some (vR 5 l0), some (vI l1), some (vI l2)], [vI (2 : Int32), vI (S cSentWord_state r153 0)])) (h' := (S, T)) rfl ?_
    refine ev_icmp_ne rfl (fun hc => ?_) (fun hc => ?_)
    · rw [if_pos hc] at hx
      refine ev_steps 2 (c' := (27, [some (vR 5 l0), some (vI l1), some (vI l2)], [vI l2, vR 5 l0])) (h' := (S, T)) rfl ?_
      obtain ⟨r155, hc, hx⟩ := bd_some hx
      refine ev_call rfl rfl rfl rfl rfl rfl rfl rfl rfl ((t_Outbox_at scr l0 l2 S T hc rfl).mono (by decide)) ?_
      refine ev_steps 2 (c' := (34, [some (vR 5 l0), some (vI l1), some (vI l2)], [vI l1, vI (S cSentWord_lastPath r155 0)])) (h' := (S, T)) rfl ?_
      refine ev_icmp_ne rfl (fun hc => ?_) (fun hc => ?_)
      · rw [if_pos hc] at hx
        refine ev_steps 2 (c' := (39, [some (vR 5 l0), some (vI l1), some (vI l2)], [vI l2, vR 5 l0])) (h' := (S, T)) rfl ?_
        obtain ⟨r157, hc, hx⟩ := bd_some hx
        refine ev_call rfl rfl rfl rfl rfl rfl rfl rfl rfl ((t_Outbox_at scr l0 l2 S T hc rfl).mono (by decide)) ?_
        refine ev_steps 2 (c' := (46, [some (vR 5 l0), some (vI l1), some (vI l2)], [])) (h' := (up3 S cSentWord_state r157 0 (3 : Int32), T)) rfl ?_
        exact t_Outbox_markAllOut_46 scr l0 l1 l2 (up3 S cSentWord_state r157 0 (3 : Int32)) T hx hG
      · rw [if_neg hc] at hx
        exact t_Outbox_markAllOut_46 scr l0 l1 l2 S T hx hG
    · rw [if_neg hc] at hx
      exact t_Outbox_markAllOut_46 scr l0 l1 l2 S T hx hG
  · rw [if_neg hc] at hx
    obtain ⟨x, hy, rfl⟩ := exW_some hx
    replace hx := hy
    simp only [Sum.elim_inr] at hG
    cases hx
    subst hG
    exact ev_ret rfl rfl
theorem t_Outbox_markAllOut_5 (scr : Nat × (Nat → Int32)) (l0 : Nat) (l1 : Int32) (l2 : Int32) (S : St) (T : St) {x : St} {o : Option iV × SS} (hx : f_Outbox_markAllOut_5 l0 l1 (l2, S) = some x) (hG : (fun x => (none, (x, T)) = o) x) : EB scr 2 5 0 cd_Outbox_markAllOut (5, [some (vR 5 l0), some (vI l1), some (vI l2)], []) (S, T) o := by
  exact iter_ind (P := fun q => EB scr 2 5 0 cd_Outbox_markAllOut (5, [some (vR 5 l0), some (vI l1), some (vI q.1)], []) (q.2, T) o) (G := fun x => (none, (x, T)) = o) (fun q x hb hP  => t_Outbox_markAllOut_5_b scr l0 l1 q.1 q.2 T hb hP) hx hG 
def f_Outbox_markAllOut (u : Nat) (a1 : Int32) (S : St) : Option (St) :=
  f_Outbox_markAllOut_5 u a1 (S cOutbox_firstNumber u 0, S)
theorem t_Outbox_markAllOut (scr : Nat × (Nat → Int32)) (u : Nat) (a1 : Int32) (S T : St) {x : St} {o : Option iV × SS} (hx : f_Outbox_markAllOut u a1 S = some x) (hG : (none, (x, T)) = o) : E0 scr 3 132 [vR 5 u, vI a1] (S, T) o := by
  refine ev_meth (ls := [some (vR 5 u), some (vI a1), none]) rfl rfl rfl ?_
  unfold f_Outbox_markAllOut at hx
  refine ev_steps 3 (c' := (5, [some (vR 5 u), some (vI a1), some (vI (S cOutbox_firstNumber u 0))], [])) (h' := (S, T)) rfl ?_
  exact t_Outbox_markAllOut_5 scr u a1 (S cOutbox_firstNumber u 0) S T hx hG
-- Path_slowDown
def f_Path_slowDown (u : Nat) (S : St) : St :=
  up3 (up3 (up3 S cPath_rate u 0 (1 : Int32)) cPath_wait u 0 (f_Math_min (24 : Int32) ((S cPath_wait u 0) * (2 : Int32)))) cPath_timerRuns u 0 (0 : Int32)
theorem t_Path_slowDown (scr : Nat × (Nat → Int32)) (u : Nat) (S T : St) {o : Option iV × SS} (hG : (none, ((f_Path_slowDown u S), T)) = o) : E0 scr 2 138 [vR 7 u] (S, T) o := by
  refine ev_meth (ls := [some (vR 7 u)]) rfl rfl rfl ?_
  unfold f_Path_slowDown at hG
  refine ev_steps 9 (c' := (14, [some (vR 7 u)], [vI ((S cPath_wait u 0) * (2 : Int32)), vI (24 : Int32), vR 7 u])) (h' := (up3 S cPath_rate u 0 (1 : Int32), T)) rfl ?_
  refine ev_call rfl rfl rfl rfl rfl rfl rfl rfl rfl ((t_Math_min scr (24 : Int32) ((S cPath_wait u 0) * (2 : Int32)) (up3 S cPath_rate u 0 (1 : Int32)) T rfl).mono (by decide)) ?_
  refine ev_steps 4 (c' := (25, [some (vR 7 u)], [])) (h' := (up3 (up3 (up3 S cPath_rate u 0 (1 : Int32)) cPath_wait u 0 (f_Math_min (24 : Int32) ((S cPath_wait u 0) * (2 : Int32)))) cPath_timerRuns u 0 (0 : Int32), T)) rfl ?_
  subst hG
  exact ev_ret rfl rfl
-- End_postAbort
def f_End_postAbort (u : Nat) (S : St) : Option (St) :=
  bd (f_End_pathToUse u S) (fun r159 => bd2 (f_End_post u r159 (8 : Int32) S) (fun r161 S162 => some S162))
theorem t_End_postAbort (scr : Nat × (Nat → Int32)) (u : Nat) (S T : St) {x : St} {o : Option iV × SS} (hx : f_End_postAbort u S = some x) (hG : (none, (x, T)) = o) : E0 scr 4 82 [vR 3 u] (S, T) o := by
  refine ev_meth (ls := [some (vR 3 u)]) rfl rfl rfl ?_
  unfold f_End_postAbort at hx
  refine ev_steps 2 (c' := (2, [some (vR 3 u)], [vR 3 u, vR 3 u])) (h' := (S, T)) rfl ?_
  obtain ⟨r159, hc, hx⟩ := bd_some hx
  refine ev_call rfl rfl rfl rfl rfl rfl rfl rfl rfl ((t_End_pathToUse scr u S T hc rfl).mono (by decide)) ?_
  refine ev_steps 1 (c' := (7, [some (vR 3 u)], [vI (8 : Int32), vI r159, vR 3 u])) (h' := (S, T)) rfl ?_
  obtain ⟨r161, S162, hc, hx⟩ := bd2_some hx
  refine ev_call rfl rfl rfl rfl rfl rfl rfl rfl rfl ((t_End_post scr u r159 (8 : Int32) S T hc rfl).mono (by decide)) ?_
  refine ev_steps 1 (c' := (11, [some (vR 3 u)], [])) (h' := (S162, T)) rfl ?_
  cases hx
  subst hG
  exact ev_ret rfl rfl
-- End_addError
def f_End_addError_33 (l0 : Nat) (S : St) : Option (St) :=
  if (S cEnd_limit l0 0) < (S cEnd_allErrors l0 0) then (bd (f_End_postAbort l0 S) (fun S164 => bd (f_End_close l0 (1 : Int32) S164) (fun S166 => some S166))) else some S
theorem t_End_addError_33 (scr : Nat × (Nat → Int32)) (l0 : Nat) (S : St) (T : St) (d1 : Option iV) {x : St} {o : Option iV × SS} (hx : f_End_addError_33 l0 S = some x) (hG : (fun x => (none, (x, T)) = o) x) : EB scr 4 3 0 cd_End_addError (33, [some (vR 3 l0), d1], []) (S, T) o := by
  unfold f_End_addError_33 at hx
  try dsimp only at hG
  refine ev_steps 4 (c' := (41, [some (vR 3 l0), _], [vI (S cEnd_limit l0 0), vI (S cEnd_allErrors l0 0)])) (h' := (S, T)) rfl ?_
  refine ev_icmp_le rfl (fun hc => ?_) (fun hc => ?_)
  · rw [if_pos hc] at hx
    refine ev_steps 1 (c' := (45, [some (vR 3 l0), _], [vR 3 l0])) (h' := (S, T)) rfl ?_
    obtain ⟨S164, hc, hx⟩ := bd_some hx
    refine ev_call rfl rfl rfl rfl rfl rfl rfl rfl rfl ((t_End_postAbort scr l0 S T hc rfl).mono (by decide)) ?_
    refine ev_steps 2 (c' := (50, [some (vR 3 l0), _], [vI (1 : Int32), vR 3 l0])) (h' := (S164, T)) rfl ?_
    obtain ⟨S166, hc, hx⟩ := bd_some hx
    refine ev_call rfl rfl rfl rfl rfl rfl rfl rfl rfl ((t_End_close scr l0 (1 : Int32) S164 T hc rfl).mono (by decide)) ?_
    refine ev_steps 0 (c' := (53, [some (vR 3 l0), _], [])) (h' := (S166, T)) rfl ?_
    cases hx
    subst hG
    exact ev_ret rfl rfl
  · rw [if_neg hc] at hx
    cases hx
    subst hG
    exact ev_ret rfl rfl
def f_End_addError (u : Nat) (u1 : Nat) (S : St) : Option (St) :=
  if ((up3 S cPath_errors u1 0 ((S cPath_errors u1 0) + (1 : Int32))) cPath_errors u1 0) < (3 : Int32) then f_End_addError_33 u (up3 (up3 S cPath_errors u1 0 ((S cPath_errors u1 0) + (1 : Int32))) cEnd_allErrors u 0 ((S cEnd_allErrors u 0) + (1 : Int32))) else f_End_addError_33 u (up3 (up3 (up3 S cPath_errors u1 0 ((S cPath_errors u1 0) + (1 : Int32))) cEnd_allErrors u 0 ((S cEnd_allErrors u 0) + (1 : Int32))) cPath_active u1 0 (0 : Int32))
theorem t_End_addError (scr : Nat × (Nat → Int32)) (u : Nat) (u1 : Nat) (S T : St) {x : St} {o : Option iV × SS} (hx : f_End_addError u u1 S = some x) (hG : (none, (x, T)) = o) : E0 scr 5 108 [vR 3 u, vR 7 u1] (S, T) o := by
  refine ev_meth (ls := [some (vR 3 u), some (vR 7 u1)]) rfl rfl rfl ?_
  unfold f_End_addError at hx
  refine ev_steps 15 (c' := (25, [some (vR 3 u), some (vR 7 u1)], [vI (3 : Int32), vI ((up3 S cPath_errors u1 0 ((S cPath_errors u1 0) + (1 : Int32))) cPath_errors u1 0)])) (h' := (up3 (up3 S cPath_errors u1 0 ((S cPath_errors u1 0) + (1 : Int32))) cEnd_allErrors u 0 ((S cEnd_allErrors u 0) + (1 : Int32)), T)) rfl ?_
  refine ev_icmp_lt rfl (fun hc => ?_) (fun hc => ?_)
  · rw [if_pos hc] at hx
    exact t_End_addError_33 scr u (up3 (up3 S cPath_errors u1 0 ((S cPath_errors u1 0) + (1 : Int32))) cEnd_allErrors u 0 ((S cEnd_allErrors u 0) + (1 : Int32))) T _ hx hG
  · rw [if_neg hc] at hx
    refine ev_steps 3 (c' := (33, [some (vR 3 u), some (vR 7 u1)], [])) (h' := (up3 (up3 (up3 S cPath_errors u1 0 ((S cPath_errors u1 0) + (1 : Int32))) cEnd_allErrors u 0 ((S cEnd_allErrors u 0) + (1 : Int32))) cPath_active u1 0 (0 : Int32), T)) rfl ?_
    exact t_End_addError_33 scr u (up3 (up3 (up3 S cPath_errors u1 0 ((S cPath_errors u1 0) + (1 : Int32))) cEnd_allErrors u 0 ((S cEnd_allErrors u 0) + (1 : Int32))) cPath_active u1 0 (0 : Int32)) T _ hx hG
-- End_postBeat
def f_End_postBeat (u : Nat) (a1 : Int32) (a2 : Int32) (S : St) : Option (St) :=
  if inb a1 2 = true then if inb a1 2 = true then bd2 (f_End_post u a1 (6 : Int32) (up3 (up3 S cPath_beatOpen (2 * u + ix a1) 0 (1 : Int32)) cPath_beatTick (2 * u + ix a1) 0 a2)) (fun r167 S168 => some (up3 S168 cPacket_tick r167 0 a2)) else none else none
theorem t_End_postBeat (scr : Nat × (Nat → Int32)) (u : Nat) (a1 : Int32) (a2 : Int32) (S T : St) {x : St} {o : Option iV × SS} (hx : f_End_postBeat u a1 a2 S = some x) (hG : (none, (x, T)) = o) : E0 scr 4 107 [vR 3 u, vI a1, vI a2] (S, T) o := by
  refine ev_meth (ls := [some (vR 3 u), some (vI a1), some (vI a2)]) rfl rfl rfl ?_
  unfold f_End_postBeat at hx
  refine ev_steps 3 (c' := (5, [some (vR 3 u), some (vI a1), some (vI a2)], [vI a1, vR 67 u])) (h' := (S, T)) rfl ?_
  obtain ⟨hg, hx⟩ := ifg hx
  refine ev_aald3 rfl rfl hg ?_
  refine ev_steps 5 (c' := (15, [some (vR 3 u), some (vI a1), some (vI a2)], [vI a1, vR 67 u])) (h' := (up3 S cPath_beatOpen (2 * u + ix a1) 0 (1 : Int32), T)) rfl ?_
  obtain ⟨hg, hx⟩ := ifg hx
  refine ev_aald3 rfl rfl hg ?_
  refine ev_steps 5 (c' := (24, [some (vR 3 u), some (vI a1), some (vI a2)], [vI (6 : Int32), vI a1, vR 3 u])) (h' := (up3 (up3 S cPath_beatOpen (2 * u + ix a1) 0 (1 : Int32)) cPath_beatTick (2 * u + ix a1) 0 a2, T)) rfl ?_
  obtain ⟨r167, S168, hc, hx⟩ := bd2_some hx
  refine ev_call rfl rfl rfl rfl rfl rfl rfl rfl rfl ((t_End_post scr u a1 (6 : Int32) (up3 (up3 S cPath_beatOpen (2 * u + ix a1) 0 (1 : Int32)) cPath_beatTick (2 * u + ix a1) 0 a2) T hc rfl).mono (by decide)) ?_
  refine ev_steps 2 (c' := (31, [some (vR 3 u), some (vI a1), some (vI a2)], [])) (h' := (up3 S168 cPacket_tick r167 0 a2, T)) rfl ?_
  cases hx
  subst hG
  exact ev_ret rfl rfl
