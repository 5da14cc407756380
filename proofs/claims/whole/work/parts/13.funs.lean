/-! Methods as functions on the store, printed by a program. -/
-- End_settleTimers
def f_End_settleTimers_53 (l0 : Nat) (l1 : Int32) (l2 : Int32) (S : St) : Option ((Int32 × St) ⊕ (St)) :=
  some (Sum.inl (l2 + (1 : Int32), S))
theorem t_End_settleTimers_53 (scr : Nat × (Nat → Int32)) (l0 : Nat) (l1 : Int32) (l2 : Int32) (S : St) (T : St) {x : (Int32 × St) ⊕ (St)} {o : Option iV × SS} (hx : f_End_settleTimers_53 l0 l1 l2 S = some x) (hG : (Sum.elim (fun q => EB scr 3 3 0 cd_End_settleTimers (2, [some (vR 3 l0), some (vI l1), some (vI q.1)], []) (q.2, T) o) (fun x => (none, (x, T)) = o)) x) : EB scr 3 3 0 cd_End_settleTimers (53, [some (vR 3 l0), some (vI l1), some (vI l2)], []) (S, T) o := by
  unfold f_End_settleTimers_53 at hx
  try dsimp only at hG
  refine ev_steps 2 (c' := (2, [some (vR 3 l0), some (vI l1), some (vI (l2 + (1 : Int32)))], [])) (h' := (S, T)) rfl ?_
  cases hx
  exact hG
def f_End_settleTimers_2_b (l0 : Nat) (l1 : Int32)  : (Int32 × St) → Option ((Int32 × St) ⊕ (St))
  | (l2, S) => if l2 < (2 : Int32) then (bd (f_Outbox_countOut l0 l2 S) (fun r91 => if r91 = 0 then (if inb l2 2 = true then f_End_settleTimers_53 l0 l1 l2 (up3 S cPath_timerRuns (2 * l0 + ix l2) 0 (0 : Int32)) else none) else (if inb l2 2 = true then if (nz (S cPath_good (2 * l0 + ix l2) 0)) = 0 then f_End_settleTimers_53 l0 l1 l2 S else (if inb l2 2 = true then f_End_settleTimers_53 l0 l1 l2 (f_Path_startTimer (2 * l0 + ix l2) l1 S) else none) else none))) else exW (some S)
def f_End_settleTimers_2 (l0 : Nat) (l1 : Int32)  (q : Int32 × St) : Option (St) := iter (f_End_settleTimers_2_b l0 l1) 4096 q
theorem t_End_settleTimers_2_b (scr : Nat × (Nat → Int32)) (l0 : Nat) (l1 : Int32) (l2 : Int32) (S : St) (T : St) {x : (Int32 × St) ⊕ (St)} {o : Option iV × SS} (hx : f_End_settleTimers_2_b l0 l1 (l2, S) = some x) (hG : (Sum.elim (fun q => EB scr 3 3 0 cd_End_settleTimers (2, [some (vR 3 l0), some (vI l1), some (vI q.1)], []) (q.2, T) o) (fun x => (none, (x, T)) = o)) x) : EB scr 3 3 0 cd_End_settleTimers (2, [some (vR 3 l0), some (vI l1), some (vI l2)], []) (S, T) o := by
  unfold f_End_settleTimers_2_b at hx
  dsimp only at hx
  refine ev_steps 2 (c' := (4, [some (vR 3 l0), some (vI l1), some (vI l2)], [vI (2 : Int32), vI l2])) (h' := (S, T)) rfl ?_
  refine ev_icmp_ge rfl (fun hc => ?_) (fun hc => ?_)
  · rw [if_pos hc] at hx
    refine ev_steps 3 (c' := (12, [some (vR 3 l0), some (vI l1), some (vI l2)], [vI l2, vR 5 l0])) (h' := (S, T)) rfl ?_
    obtain ⟨r91, hc, hx⟩ := bd_some hx
    refine ev_call rfl rfl rfl rfl rfl rfl rfl rfl rfl ((t_Outbox_countOut scr l0 l2 S T hc rfl).mono (by decide)) ?_
    refine ev_steps 0 (c' := (15, [some (vR 3 l0), some (vI l1), some (vI l2)], [vI r91])) (h' := (S, T)) rfl ?_
    refine ev_if_ne rfl (fun hc => ?_) (fun hc => ?_)
    · rw [if_pos hc] at hx
      refine ev_steps 3 (c' := (23, [some (vR 3 l0), some (vI l1), some (vI l2)], [vI l2, vR 67 l0])) (h' := (S, T)) rfl ?_
      obtain ⟨hg, hx⟩ := ifg hx
      refine ev_aald3 rfl rfl hg ?_
      refine ev_steps 3 (c' := (53, [some (vR 3 l0), some (vI l1), some (vI l2)], [])) (h' := (up3 S cPath_timerRuns (2 * l0 + ix l2) 0 (0 : Int32), T)) rfl ?_
      exact t_End_settleTimers_53 scr l0 l1 l2 (up3 S cPath_timerRuns (2 * l0 + ix l2) 0 (0 : Int32)) T hx hG
    · rw [if_neg hc] at hx
      refine ev_steps 3 (c' := (36, [some (vR 3 l0), some (vI l1), some (vI l2)], [vI l2, vR 67 l0])) (h' := (S, T)) rfl ?_
      obtain ⟨hg, hx⟩ := ifg hx
      refine ev_aald3 rfl rfl hg ?_
      refine ev_steps 1 (c' := (40, [some (vR 3 l0), some (vI l1), some (vI l2)], [vI (nz (S cPath_good (2 * l0 + ix l2) 0))])) (h' := (S, T)) rfl ?_
      refine ev_if_eq rfl (fun hc => ?_) (fun hc => ?_)
      · rw [if_pos hc] at hx
        exact t_End_settleTimers_53 scr l0 l1 l2 S T hx hG
      · rw [if_neg hc] at hx
        refine ev_steps 3 (c' := (48, [some (vR 3 l0), some (vI l1), some (vI l2)], [vI l2, vR 67 l0])) (h' := (S, T)) rfl ?_
        obtain ⟨hg, hx⟩ := ifg hx
        refine ev_aald3 rfl rfl hg ?_
        refine ev_steps 1 (c' := (50, [some (vR 3 l0), some (vI l1), some (vI l2)], [vI l1, vR 7 (2 * l0 + ix l2)])) (h' := (S, T)) rfl ?_
        refine ev_call rfl rfl rfl rfl rfl rfl rfl rfl rfl ((t_Path_startTimer scr (2 * l0 + ix l2) l1 S T rfl).mono (by decide)) ?_
        refine ev_steps 0 (c' := (53, [some (vR 3 l0), some (vI l1), some (vI l2)], [])) (h' := ((f_Path_startTimer (2 * l0 + ix l2) l1 S), T)) rfl ?_
        exact t_End_settleTimers_53 scr l0 l1 l2 (f_Path_startTimer (2 * l0 + ix l2) l1 S) T hx hG
  · rw [if_neg hc] at hx
    obtain ⟨x, hy, rfl⟩ := exW_some hx
    replace hx := hy
    simp only [Sum.elim_inr] at hG
    cases hx
    subst hG
    exact ev_ret rfl rfl
theorem t_End_settleTimers_2 (scr : Nat × (Nat → Int32)) (l0 : Nat) (l1 : Int32) (l2 : Int32) (S : St) (T : St) {x : St} {o : Option iV × SS} (hx : f_End_settleTimers_2 l0 l1 (l2, S) = some x) (hG : (fun x => (none, (x, T)) = o) x) : EB scr 3 3 0 cd_End_settleTimers (2, [some (vR 3 l0), some (vI l1), some (vI l2)], []) (S, T) o := by
  exact iter_ind (P := fun q => EB scr 3 3 0 cd_End_settleTimers (2, [some (vR 3 l0), some (vI l1), some (vI q.1)], []) (q.2, T) o) (G := fun x => (none, (x, T)) = o) (fun q x hb hP  => t_End_settleTimers_2_b scr l0 l1 q.1 q.2 T hb hP) hx hG 
def f_End_settleTimers (u : Nat) (a1 : Int32) (S : St) : Option (St) :=
  f_End_settleTimers_2 u a1 ((0 : Int32), S)
theorem t_End_settleTimers (scr : Nat × (Nat → Int32)) (u : Nat) (a1 : Int32) (S T : St) {x : St} {o : Option iV × SS} (hx : f_End_settleTimers u a1 S = some x) (hG : (none, (x, T)) = o) : E0 scr 4 102 [vR 3 u, vI a1] (S, T) o := by
  refine ev_meth (ls := [some (vR 3 u), some (vI a1), none]) rfl rfl rfl ?_
  unfold f_End_settleTimers at hx
  refine ev_steps 2 (c' := (2, [some (vR 3 u), some (vI a1), some (vI (0 : Int32))], [])) (h' := (S, T)) rfl ?_
  exact t_End_settleTimers_2 scr u a1 (0 : Int32) S T hx hG
-- End_takeSack
def f_End_takeSack_33_b (l0 : Nat) (l1 : Nat) (l2 : Int32)  : (Int32 × St) → Option ((Int32 × St) ⊕ (St))
  | (l3, S) => if l3 < (2 : Int32) then (if inb l3 2 = true then some (Sum.inl (l3 + (1 : Int32), up3 S cPath_good (2 * l0 + ix l3) 0 (0 : Int32))) else none) else exW (bd (f_End_dropUpTo l0 (S cPacket_number l1 0) S) (fun S94 => bd (f_End_holdGaps l0 (S94 cPacket_gaps l1 0) S94) (fun S96 => bd (f_End_rewardGoodPaths l0 (up3 S96 cOutbox_window l0 0 (S96 cPacket_window l1 0))) (fun S98 => bd (f_End_strikeBelow l0 (S98 cPacket_gaps l1 0) S98) (fun S100 => bd (f_End_settleTimers l0 l2 S100) (fun S102 => bd (f_End_sendWhatItMay l0 l2 S102) (fun S104 => some S104)))))))
def f_End_takeSack_33 (l0 : Nat) (l1 : Nat) (l2 : Int32)  (q : Int32 × St) : Option (St) := iter (f_End_takeSack_33_b l0 l1 l2) 4096 q
theorem t_End_takeSack_33_b (scr : Nat × (Nat → Int32)) (l0 : Nat) (l1 : Nat) (l2 : Int32) (l3 : Int32) (S : St) (T : St) {x : (Int32 × St) ⊕ (St)} {o : Option iV × SS} (hx : f_End_takeSack_33_b l0 l1 l2 (l3, S) = some x) (hG : (Sum.elim (fun q => EB scr 5 3 0 cd_End_takeSack (33, [some (vR 3 l0), some (vR 6 l1), some (vI l2), some (vI q.1)], []) (q.2, T) o) (fun x => (none, (x, T)) = o)) x) : EB scr 5 3 0 cd_End_takeSack (33, [some (vR 3 l0), some (vR 6 l1), some (vI l2), some (vI l3)], []) (S, T) o := by
  unfold f_End_takeSack_33_b at hx
  dsimp only at hx
  refine ev_steps 2 (c' := (35, [some (vR 3 l0), some (vR 6 l1), some (vI l2), some (vI l3)], [vI (2 : Int32), vI l3])) (h' := (S, T)) rfl ?_
  refine ev_icmp_ge rfl (fun hc => ?_) (fun hc => ?_)
  · rw [if_pos hc] at hx
    refine ev_steps 3 (c' := (43, [some (vR 3 l0), some (vR 6 l1), some (vI l2), some (vI l3)], [vI l3, vR 67 l0])) (h' := (S, T)) rfl ?_
    obtain ⟨hg, hx⟩ := ifg hx
    refine ev_aald3 rfl rfl hg ?_
    refine ev_steps 4 (c' := (33, [some (vR 3 l0), some (vR 6 l1), some (vI l2), some (vI (l3 + (1 : Int32)))], [])) (h' := (up3 S cPath_good (2 * l0 + ix l3) 0 (0 : Int32), T)) rfl ?_
    cases hx
    exact hG
  · rw [if_neg hc] at hx
    obtain ⟨x, hy, rfl⟩ := exW_some hx
    replace hx := hy
    simp only [Sum.elim_inr] at hG
    refine ev_steps 3 (c' := (59, [some (vR 3 l0), some (vR 6 l1), some (vI l2), some (vI l3)], [vI (S cPacket_number l1 0), vR 3 l0])) (h' := (S, T)) rfl ?_
    obtain ⟨S94, hc, hx⟩ := bd_some hx
    refine ev_call rfl rfl rfl rfl rfl rfl rfl rfl rfl ((t_End_dropUpTo scr l0 (S cPacket_number l1 0) S T hc rfl).mono (by decide)) ?_
    refine ev_steps 3 (c' := (67, [some (vR 3 l0), some (vR 6 l1), some (vI l2), some (vI l3)], [vI (S94 cPacket_gaps l1 0), vR 3 l0])) (h' := (S94, T)) rfl ?_
    obtain ⟨S96, hc, hx⟩ := bd_some hx
    refine ev_call rfl rfl rfl rfl rfl rfl rfl rfl rfl ((t_End_holdGaps scr l0 (S94 cPacket_gaps l1 0) S94 T hc rfl).mono (by decide)) ?_
    refine ev_steps 6 (c' := (82, [some (vR 3 l0), some (vR 6 l1), some (vI l2), some (vI l3)], [vR 3 l0])) (h' := (up3 S96 cOutbox_window l0 0 (S96 cPacket_window l1 0), T)) rfl ?_
    obtain ⟨S98, hc, hx⟩ := bd_some hx
    refine ev_call rfl rfl rfl rfl rfl rfl rfl rfl rfl ((t_End_rewardGoodPaths scr l0 (up3 S96 cOutbox_window l0 0 (S96 cPacket_window l1 0)) T hc rfl).mono (by decide)) ?_
    refine ev_steps 3 (c' := (90, [some (vR 3 l0), some (vR 6 l1), some (vI l2), some (vI l3)], [vI (S98 cPacket_gaps l1 0), vR 3 l0])) (h' := (S98, T)) rfl ?_
    obtain ⟨S100, hc, hx⟩ := bd_some hx
    refine ev_call rfl rfl rfl rfl rfl rfl rfl rfl rfl ((t_End_strikeBelow scr l0 (S98 cPacket_gaps l1 0) S98 T hc rfl).mono (by decide)) ?_
    refine ev_steps 2 (c' := (95, [some (vR 3 l0), some (vR 6 l1), some (vI l2), some (vI l3)], [vI l2, vR 3 l0])) (h' := (S100, T)) rfl ?_
    obtain ⟨S102, hc, hx⟩ := bd_some hx
    refine ev_call rfl rfl rfl rfl rfl rfl rfl rfl rfl ((t_End_settleTimers scr l0 l2 S100 T hc rfl).mono (by decide)) ?_
    refine ev_steps 2 (c' := (100, [some (vR 3 l0), some (vR 6 l1), some (vI l2), some (vI l3)], [vI l2, vR 3 l0])) (h' := (S102, T)) rfl ?_
    obtain ⟨S104, hc, hx⟩ := bd_some hx
    refine ev_call rfl rfl rfl rfl rfl rfl rfl rfl rfl ((t_End_sendWhatItMay scr l0 l2 S102 T hc rfl).mono (by decide)) ?_
    refine ev_steps 0 (c' := (103, [some (vR 3 l0), some (vR 6 l1), some (vI l2), some (vI l3)], [])) (h' := (S104, T)) rfl ?_
    cases hx
    subst hG
    exact ev_ret rfl rfl
theorem t_End_takeSack_33 (scr : Nat × (Nat → Int32)) (l0 : Nat) (l1 : Nat) (l2 : Int32) (l3 : Int32) (S : St) (T : St) {x : St} {o : Option iV × SS} (hx : f_End_takeSack_33 l0 l1 l2 (l3, S) = some x) (hG : (fun x => (none, (x, T)) = o) x) : EB scr 5 3 0 cd_End_takeSack (33, [some (vR 3 l0), some (vR 6 l1), some (vI l2), some (vI l3)], []) (S, T) o := by
  exact iter_ind (P := fun q => EB scr 5 3 0 cd_End_takeSack (33, [some (vR 3 l0), some (vR 6 l1), some (vI l2), some (vI q.1)], []) (q.2, T) o) (G := fun x => (none, (x, T)) = o) (fun q x hb hP  => t_End_takeSack_33_b scr l0 l1 l2 q.1 q.2 T hb hP) hx hG 
def f_End_takeSack (u : Nat) (u1 : Nat) (a2 : Int32) (S : St) : Option (St) :=
  if (S cPacket_number u1 0) < ((S cOutbox_firstNumber u 0) - (1 : Int32)) then some S else (if (S cPacket_number u1 0) < (S cOutbox_nextNumber u 0) then f_End_takeSack_33 u u1 a2 ((0 : Int32), S) else some S)
theorem t_End_takeSack (scr : Nat × (Nat → Int32)) (u : Nat) (u1 : Nat) (a2 : Int32) (S T : St) {x : St} {o : Option iV × SS} (hx : f_End_takeSack u u1 a2 S = some x) (hG : (none, (x, T)) = o) : E0 scr 6 96 [vR 3 u, vR 6 u1, vI a2] (S, T) o := by
  refine ev_meth (ls := [some (vR 3 u), some (vR 6 u1), some (vI a2), none]) rfl rfl rfl ?_
  unfold f_End_takeSack at hx
  refine ev_steps 7 (c' := (13, [some (vR 3 u), some (vR 6 u1), some (vI a2), none], [vI ((S cOutbox_firstNumber u 0) - (1 : Int32)), vI (S cPacket_number u1 0)])) (h' := (S, T)) rfl ?_
  refine ev_icmp_lt rfl (fun hc => ?_) (fun hc => ?_)
  · rw [if_pos hc] at hx
    cases hx
    subst hG
    exact ev_ret rfl rfl
  · rw [if_neg hc] at hx
    refine ev_steps 5 (c' := (27, [some (vR 3 u), some (vR 6 u1), some (vI a2), none], [vI (S cOutbox_nextNumber u 0), vI (S cPacket_number u1 0)])) (h' := (S, T)) rfl ?_
    refine ev_icmp_lt rfl (fun hc => ?_) (fun hc => ?_)
    · rw [if_pos hc] at hx
      refine ev_steps 2 (c' := (33, [some (vR 3 u), some (vR 6 u1), some (vI a2), some (vI (0 : Int32))], [])) (h' := (S, T)) rfl ?_
      exact t_End_takeSack_33 scr u u1 a2 (0 : Int32) S T hx hG
    · rw [if_neg hc] at hx
      cases hx
      subst hG
      exact ev_ret rfl rfl
-- Inbox_slotOf
def f_Inbox_slotOf (a0 : Int32) : Int32 :=
  a0 &&& (31 : Int32)
theorem t_Inbox_slotOf (scr : Nat × (Nat → Int32)) (a0 : Int32) (S T : St) {o : Option iV × SS} (hG : (some (vI (f_Inbox_slotOf a0)), (S, T)) = o) : E0 scr 1 116 [vI a0] (S, T) o := by
  refine ev_meth (ls := [some (vI a0)]) rfl rfl rfl ?_
  unfold f_Inbox_slotOf at hG
  refine ev_steps 3 (c' := (4, [some (vI a0)], [vI (a0 &&& (31 : Int32))])) (h' := (S, T)) rfl ?_
  subst hG
  exact ev_ret rfl rfl
-- Inbox_has
def f_Inbox_has_24 (S : St) : Option (Int32) :=
  some (1 : Int32)
theorem t_Inbox_has_24 (scr : Nat × (Nat → Int32)) (S : St) (T : St) (d0 d1 : Option iV) {x : Int32} {o : Option iV × SS} (hx : f_Inbox_has_24 S = some x) (hG : (fun x => (some (vI x), (S, T)) = o) x) : EB scr 1 4 2 cd_Inbox_has (24, [d0, d1], []) (S, T) o := by
  unfold f_Inbox_has_24 at hx
  try dsimp only at hG
  refine ev_steps 2 (c' := (29, [_, _], [vI (1 : Int32)])) (h' := (S, T)) rfl ?_
  cases hx
  subst hG
  exact ev_ret rfl rfl
def f_Inbox_has (u : Nat) (a1 : Int32) (S : St) : Option (Int32) :=
  if (S cInbox_latest u 0) < a1 then (if inb (f_Inbox_slotOf a1) 32 = true then if (S cWord_number (32 * u + ix (f_Inbox_slotOf a1) + 84) 0) = a1 then f_Inbox_has_24 S else some (0 : Int32) else none) else f_Inbox_has_24 S
theorem t_Inbox_has (scr : Nat × (Nat → Int32)) (u : Nat) (a1 : Int32) (S T : St) {x : Int32} {o : Option iV × SS} (hx : f_Inbox_has u a1 S = some x) (hG : (some (vI x), (S, T)) = o) : E0 scr 2 117 [vR 4 u, vI a1] (S, T) o := by
  refine ev_meth (ls := [some (vR 4 u), some (vI a1)]) rfl rfl rfl ?_
  unfold f_Inbox_has at hx
  refine ev_steps 3 (c' := (5, [some (vR 4 u), some (vI a1)], [vI (S cInbox_latest u 0), vI a1])) (h' := (S, T)) rfl ?_
  refine ev_icmp_le rfl (fun hc => ?_) (fun hc => ?_)
  · rw [if_pos hc] at hx
    refine ev_steps 3 (c' := (13, [some (vR 4 u), some (vI a1)], [vI a1, vR 73 u])) (h' := (S, T)) rfl ?_
    refine ev_call rfl rfl rfl rfl rfl rfl rfl rfl rfl ((t_Inbox_slotOf scr a1 S T rfl).mono (by decide)) ?_
    refine ev_steps 0 (c' := (16, [some (vR 4 u), some (vI a1)], [vI (f_Inbox_slotOf a1), vR 73 u])) (h' := (S, T)) rfl ?_
    obtain ⟨hg, hx⟩ := ifg hx
    refine ev_aald4 rfl rfl hg ?_
    refine ev_steps 2 (c' := (21, [some (vR 4 u), some (vI a1)], [vI a1, vI (S cWord_number (32 * u + ix (f_Inbox_slotOf a1) + 84) 0)])) (h' := (S, T)) rfl ?_
    refine ev_icmp_ne rfl (fun hc => ?_) (fun hc => ?_)
    · rw [if_pos hc] at hx
      exact t_Inbox_has_24 scr S T _ _ hx hG
    · rw [if_neg hc] at hx
      refine ev_steps 1 (c' := (29, [some (vR 4 u), some (vI a1)], [vI (0 : Int32)])) (h' := (S, T)) rfl ?_
      cases hx
      subst hG
      exact ev_ret rfl rfl
  · rw [if_neg hc] at hx
    exact t_Inbox_has_24 scr S T _ _ hx hG
-- Inbox_kept
def f_Inbox_kept (u : Nat) (S : St) : Int32 :=
  (S cInbox_unreadyWords u 0) + (S cReadyList_words u 0)
theorem t_Inbox_kept (scr : Nat × (Nat → Int32)) (u : Nat) (S T : St) {o : Option iV × SS} (hG : (some (vI (f_Inbox_kept u S)), (S, T)) = o) : E0 scr 1 111 [vR 4 u] (S, T) o := by
  refine ev_meth (ls := [some (vR 4 u)]) rfl rfl rfl ?_
  unfold f_Inbox_kept at hG
  refine ev_steps 6 (c' := (12, [some (vR 4 u)], [vI ((S cInbox_unreadyWords u 0) + (S cReadyList_words u 0))])) (h' := (S, T)) rfl ?_
  subst hG
  exact ev_ret rfl rfl
-- Inbox_isDropped
def f_Inbox_isDropped_24 (S : St) : Option (Int32) :=
  some (1 : Int32)
theorem t_Inbox_isDropped_24 (scr : Nat × (Nat → Int32)) (S : St) (T : St) (d0 d1 : Option iV) {x : Int32} {o : Option iV × SS} (hx : f_Inbox_isDropped_24 S = some x) (hG : (fun x => (some (vI x), (S, T)) = o) x) : EB scr 2 4 2 cd_Inbox_isDropped (24, [d0, d1], []) (S, T) o := by
  unfold f_Inbox_isDropped_24 at hx
  try dsimp only at hG
  refine ev_steps 1 (c' := (25, [_, _], [vI (1 : Int32)])) (h' := (S, T)) rfl ?_
  cases hx
  subst hG
  exact ev_ret rfl rfl
def f_Inbox_isDropped_51 (S : St) : Option (Int32) :=
  some (0 : Int32)
theorem t_Inbox_isDropped_51 (scr : Nat × (Nat → Int32)) (S : St) (T : St) (d0 d1 : Option iV) {x : Int32} {o : Option iV × SS} (hx : f_Inbox_isDropped_51 S = some x) (hG : (fun x => (some (vI x), (S, T)) = o) x) : EB scr 2 4 2 cd_Inbox_isDropped (51, [d0, d1], []) (S, T) o := by
  unfold f_Inbox_isDropped_51 at hx
  try dsimp only at hG
  refine ev_steps 1 (c' := (52, [_, _], [vI (0 : Int32)])) (h' := (S, T)) rfl ?_
  cases hx
  subst hG
  exact ev_ret rfl rfl
def f_Inbox_isDropped (u : Nat) (a1 : Int32) (S : St) : Option (Int32) :=
  if a1 < (1 : Int32) then f_Inbox_isDropped_24 S else (if ((S cInbox_latest u 0) + (16 : Int32)) < a1 then f_Inbox_isDropped_24 S else (bd (f_Inbox_has u a1 S) (fun r105 => if r105 = 0 then (if (f_Inbox_kept u S) < (S cInbox_room u 0) then f_Inbox_isDropped_51 S else (if a1 = ((S cInbox_latest u 0) + (1 : Int32)) then f_Inbox_isDropped_51 S else some (1 : Int32))) else f_Inbox_isDropped_24 S)))
theorem t_Inbox_isDropped (scr : Nat × (Nat → Int32)) (u : Nat) (a1 : Int32) (S T : St) {x : Int32} {o : Option iV × SS} (hx : f_Inbox_isDropped u a1 S = some x) (hG : (some (vI x), (S, T)) = o) : E0 scr 3 115 [vR 4 u, vI a1] (S, T) o := by
  refine ev_meth (ls := [some (vR 4 u), some (vI a1)]) rfl rfl rfl ?_
  unfold f_Inbox_isDropped at hx
  refine ev_steps 2 (c' := (2, [some (vR 4 u), some (vI a1)], [vI (1 : Int32), vI a1])) (h' := (S, T)) rfl ?_
  refine ev_icmp_lt rfl (fun hc => ?_) (fun hc => ?_)
  · rw [if_pos hc] at hx
    exact t_Inbox_isDropped_24 scr S T _ _ hx hG
  · rw [if_neg hc] at hx
    refine ev_steps 5 (c' := (13, [some (vR 4 u), some (vI a1)], [vI ((S cInbox_latest u 0) + (16 : Int32)), vI a1])) (h' := (S, T)) rfl ?_
    refine ev_icmp_gt rfl (fun hc => ?_) (fun hc => ?_)
    · rw [if_pos hc] at hx
      exact t_Inbox_isDropped_24 scr S T _ _ hx hG
    · rw [if_neg hc] at hx
      refine ev_steps 2 (c' := (18, [some (vR 4 u), some (vI a1)], [vI a1, vR 4 u])) (h' := (S, T)) rfl ?_
      obtain ⟨r105, hc, hx⟩ := bd_some hx
      refine ev_call rfl rfl rfl rfl rfl rfl rfl rfl rfl ((t_Inbox_has scr u a1 S T hc rfl).mono (by decide)) ?_
      refine ev_steps 0 (c' := (21, [some (vR 4 u), some (vI a1)], [vI r105])) (h' := (S, T)) rfl ?_
      refine ev_if_eq rfl (fun hc => ?_) (fun hc => ?_)
      · rw [if_pos hc] at hx
        refine ev_steps 1 (c' := (27, [some (vR 4 u), some (vI a1)], [vR 4 u])) (h' := (S, T)) rfl ?_
        refine ev_call rfl rfl rfl rfl rfl rfl rfl rfl rfl ((t_Inbox_kept scr u S T rfl).mono (by decide)) ?_
        refine ev_steps 2 (c' := (34, [some (vR 4 u), some (vI a1)], [vI (S cInbox_room u 0), vI (f_Inbox_kept u S)])) (h' := (S, T)) rfl ?_
        refine ev_icmp_lt rfl (fun hc => ?_) (fun hc => ?_)
        · rw [if_pos hc] at hx
          exact t_Inbox_isDropped_51 scr S T _ _ hx hG
        · rw [if_neg hc] at hx
          refine ev_steps 5 (c' := (44, [some (vR 4 u), some (vI a1)], [vI ((S cInbox_latest u 0) + (1 : Int32)), vI a1])) (h' := (S, T)) rfl ?_
          refine ev_icmp_eq rfl (fun hc => ?_) (fun hc => ?_)
          · rw [if_pos hc] at hx
            exact t_Inbox_isDropped_51 scr S T _ _ hx hG
          · rw [if_neg hc] at hx
            refine ev_steps 2 (c' := (52, [some (vR 4 u), some (vI a1)], [vI (1 : Int32)])) (h' := (S, T)) rfl ?_
            cases hx
            subst hG
            exact ev_ret rfl rfl
      · rw [if_neg hc] at hx
        exact t_Inbox_isDropped_24 scr S T _ _ hx hG
-- Inbox_wholeLength
def f_Inbox_wholeLength_55 (S : St) : Option (Int32) :=
  some (0 : Int32)
theorem t_Inbox_wholeLength_55 (scr : Nat × (Nat → Int32)) (S : St) (T : St) (d0 d1 d2 d3 : Option iV) {x : Int32} {o : Option iV × SS} (hx : f_Inbox_wholeLength_55 S = some x) (hG : (fun x => (some (vI x), (S, T)) = o) x) : EB scr 1 4 1 cd_Inbox_wholeLength (55, [d0, d1, d2, d3], []) (S, T) o := by
  unfold f_Inbox_wholeLength_55 at hx
  try dsimp only at hG
  refine ev_steps 1 (c' := (56, [_, _, _, _], [vI (0 : Int32)])) (h' := (S, T)) rfl ?_
  cases hx
  subst hG
  exact ev_ret rfl rfl
def f_Inbox_wholeLength_19_b (l0 : Nat) (l1 : Int32) (S : St) : (Int32) → Option ((Int32) ⊕ (Int32))
  | l2 => if l2 < (4 : Int32) then (if inb (f_Inbox_slotOf (l1 + l2)) 32 = true then if (nz (S cInbox_unready l0 (ix (f_Inbox_slotOf (l1 + l2))))) = 0 then exW (f_Inbox_wholeLength_55 S) else (if inb (f_Inbox_slotOf (l1 + l2)) 32 = true then if (S cWord_number (32 * l0 + ix (f_Inbox_slotOf (l1 + l2)) + 84) 0) = (l1 + l2) then (if inb (f_Inbox_slotOf (l1 + l2)) 32 = true then if (nz (S cWord_last (32 * l0 + ix (f_Inbox_slotOf (l1 + l2)) + 84) 0)) = 0 then some (Sum.inl (l2 + (1 : Int32))) else exW (some (l2 + (1 : Int32))) else none) else exW (f_Inbox_wholeLength_55 S) else none) else none) else exW (some (0 : Int32))
def f_Inbox_wholeLength_19 (l0 : Nat) (l1 : Int32) (S : St) (q : Int32) : Option (Int32) := iter (f_Inbox_wholeLength_19_b l0 l1 S) 4096 q
theorem t_Inbox_wholeLength_19_b (scr : Nat × (Nat → Int32)) (l0 : Nat) (l1 : Int32) (l2 : Int32) (S : St) (T : St) (d3 : Option iV) {x : (Int32) ⊕ (Int32)} {o : Option iV × SS} (hx : f_Inbox_wholeLength_19_b l0 l1 S l2 = some x) (hG : (Sum.elim (fun q => ∀ d3 : Option iV, EB scr 1 4 1 cd_Inbox_wholeLength (19, [some (vR 4 l0), some (vI l1), some (vI q), d3], []) (S, T) o) (fun x => (some (vI x), (S, T)) = o)) x) : EB scr 1 4 1 cd_Inbox_wholeLength (19, [some (vR 4 l0), some (vI l1), some (vI l2), d3], []) (S, T) o := by
  unfold f_Inbox_wholeLength_19_b at hx
  dsimp only at hx
  refine ev_steps 2 (c' := (21, [some (vR 4 l0), some (vI l1), some (vI l2), _], [vI (4 : Int32), vI l2])) (h' := (S, T)) rfl ?_
  refine ev_icmp_ge rfl (fun hc => ?_) (fun hc => ?_)
  · rw [if_pos hc] at hx
    refine ev_steps 3 (c' := (27, [some (vR 4 l0), some (vI l1), some (vI l2), _], [vI (l1 + l2)])) (h' := (S, T)) rfl ?_
    refine ev_call rfl rfl rfl rfl rfl rfl rfl rfl rfl ((t_Inbox_slotOf scr (l1 + l2) S T rfl).mono (by decide)) ?_
    refine ev_steps 4 (c' := (36, [some (vR 4 l0), some (vI l1), some (vI l2), some (vI (f_Inbox_slotOf (l1 + l2)))], [vI (f_Inbox_slotOf (l1 + l2)), vR 74 l0])) (h' := (S, T)) rfl ?_
    obtain ⟨hg, hx⟩ := ifg hx
    refine ev_bald rfl rfl hg ?_
    refine ev_steps 0 (c' := (37, [some (vR 4 l0), some (vI l1), some (vI l2), some (vI (f_Inbox_slotOf (l1 + l2)))], [vI (nz (S cInbox_unready l0 (ix (f_Inbox_slotOf (l1 + l2)))))])) (h' := (S, T)) rfl ?_
    refine ev_if_eq rfl (fun hc => ?_) (fun hc => ?_)
    · rw [if_pos hc] at hx
      obtain ⟨x, hy, rfl⟩ := exW_some hx
      replace hx := hy
      simp only [Sum.elim_inr] at hG
      exact t_Inbox_wholeLength_55 scr S T _ _ _ _ hx hG
    · rw [if_neg hc] at hx
      refine ev_steps 3 (c' := (45, [some (vR 4 l0), some (vI l1), some (vI l2), some (vI (f_Inbox_slotOf (l1 + l2)))], [vI (f_Inbox_slotOf (l1 + l2)), vR 73 l0])) (h' := (S, T)) rfl ?_
      obtain ⟨hg, hx⟩ := ifg hx
      refine ev_aald4 rfl rfl hg ?_
      refine ev_steps 4 (c' := (52, [some (vR 4 l0), some (vI l1), some (vI l2), some (vI (f_Inbox_slotOf (l1 + l2)))], [vI (l1 + l2), vI (S cWord_number (32 * l0 + ix (f_Inbox_slotOf (l1 + l2)) + 84) 0)])) (h' := (S, T)) rfl ?_
      refine ev_icmp_eq rfl (fun hc => ?_) (fun hc => ?_)
      · rw [if_pos hc] at hx
        refine ev_steps 3 (c' := (62, [some (vR 4 l0), some (vI l1), some (vI l2), some (vI (f_Inbox_slotOf (l1 + l2)))], [vI (f_Inbox_slotOf (l1 + l2)), vR 73 l0])) (h' := (S, T)) rfl ?_
        obtain ⟨hg, hx⟩ := ifg hx
        refine ev_aald4 rfl rfl hg ?_
        refine ev_steps 1 (c' := (66, [some (vR 4 l0), some (vI l1), some (vI l2), some (vI (f_Inbox_slotOf (l1 + l2)))], [vI (nz (S cWord_last (32 * l0 + ix (f_Inbox_slotOf (l1 + l2)) + 84) 0))])) (h' := (S, T)) rfl ?_
        refine ev_if_eq rfl (fun hc => ?_) (fun hc => ?_)
        · rw [if_pos hc] at hx
          refine ev_steps 2 (c' := (19, [some (vR 4 l0), some (vI l1), some (vI (l2 + (1 : Int32))), some (vI (f_Inbox_slotOf (l1 + l2)))], [])) (h' := (S, T)) rfl ?_
          cases hx
          exact hG _
        · rw [if_neg hc] at hx
          obtain ⟨x, hy, rfl⟩ := exW_some hx
          replace hx := hy
          simp only [Sum.elim_inr] at hG
          refine ev_steps 3 (c' := (72, [some (vR 4 l0), some (vI l1), some (vI l2), some (vI (f_Inbox_slotOf (l1 + l2)))], [vI (l2 + (1 : Int32))])) (h' := (S, T)) rfl ?_
          cases hx
          subst hG
          exact ev_ret rfl rfl
      · rw [if_neg hc] at hx
        obtain ⟨x, hy, rfl⟩ := exW_some hx
        replace hx := hy
        simp only [Sum.elim_inr] at hG
        exact t_Inbox_wholeLength_55 scr S T _ _ _ _ hx hG
  · rw [if_neg hc] at hx
    obtain ⟨x, hy, rfl⟩ := exW_some hx
    replace hx := hy
    simp only [Sum.elim_inr] at hG
    refine ev_steps 1 (c' := (80, [some (vR 4 l0), some (vI l1), some (vI l2), _], [vI (0 : Int32)])) (h' := (S, T)) rfl ?_
    cases hx
    subst hG
    exact ev_ret rfl rfl
theorem t_Inbox_wholeLength_19 (scr : Nat × (Nat → Int32)) (l0 : Nat) (l1 : Int32) (l2 : Int32) (S : St) (T : St) (d3 : Option iV) {x : Int32} {o : Option iV × SS} (hx : f_Inbox_wholeLength_19 l0 l1 S l2 = some x) (hG : (fun x => (some (vI x), (S, T)) = o) x) : EB scr 1 4 1 cd_Inbox_wholeLength (19, [some (vR 4 l0), some (vI l1), some (vI l2), d3], []) (S, T) o := by
  exact iter_ind (P := fun q => ∀ d3 : Option iV, EB scr 1 4 1 cd_Inbox_wholeLength (19, [some (vR 4 l0), some (vI l1), some (vI q), d3], []) (S, T) o) (G := fun x => (some (vI x), (S, T)) = o) (fun q x hb hP d3 => t_Inbox_wholeLength_19_b scr l0 l1 q S T d3 hb hP) hx hG d3
def f_Inbox_wholeLength (u : Nat) (a1 : Int32) (S : St) : Option (Int32) :=
  if inb (f_Inbox_slotOf a1) 32 = true then if (nz (S cWord_first (32 * u + ix (f_Inbox_slotOf a1) + 84) 0)) = 0 then some (0 : Int32) else f_Inbox_wholeLength_19 u a1 S (0 : Int32) else none
theorem t_Inbox_wholeLength (scr : Nat × (Nat → Int32)) (u : Nat) (a1 : Int32) (S T : St) {x : Int32} {o : Option iV × SS} (hx : f_Inbox_wholeLength u a1 S = some x) (hG : (some (vI x), (S, T)) = o) : E0 scr 2 119 [vR 4 u, vI a1] (S, T) o := by
  refine ev_meth (ls := [some (vR 4 u), some (vI a1), none, none]) rfl rfl rfl ?_
  unfold f_Inbox_wholeLength at hx
  refine ev_steps 3 (c' := (5, [some (vR 4 u), some (vI a1), none, none], [vI a1, vR 73 u])) (h' := (S, T)) rfl ?_
  refine ev_call rfl rfl rfl rfl rfl rfl rfl rfl rfl ((t_Inbox_slotOf scr a1 S T rfl).mono (by decide)) ?_
  refine ev_steps 0 (c' := (8, [some (vR 4 u), some (vI a1), none, none], [vI (f_Inbox_slotOf a1), vR 73 u])) (h' := (S, T)) rfl ?_
  obtain ⟨hg, hx⟩ := ifg hx
  refine ev_aald4 rfl rfl hg ?_
  refine ev_steps 1 (c' := (12, [some (vR 4 u), some (vI a1), none, none], [vI (nz (S cWord_first (32 * u + ix (f_Inbox_slotOf a1) + 84) 0))])) (h' := (S, T)) rfl ?_
  refine ev_if_ne rfl (fun hc => ?_) (fun hc => ?_)
  · rw [if_pos hc] at hx
    refine ev_steps 1 (c' := (16, [some (vR 4 u), some (vI a1), none, none], [vI (0 : Int32)])) (h' := (S, T)) rfl ?_
    cases hx
    subst hG
    exact ev_ret rfl rfl
  · rw [if_neg hc] at hx
    refine ev_steps 2 (c' := (19, [some (vR 4 u), some (vI a1), some (vI (0 : Int32)), none], [])) (h' := (S, T)) rfl ?_
    exact t_Inbox_wholeLength_19 scr u a1 (0 : Int32) S T _ hx hG
-- Inbox_mayBeReady
def f_Inbox_mayBeReady_23 (S : St) : Option (Int32) :=
  some (1 : Int32)
theorem t_Inbox_mayBeReady_23 (scr : Nat × (Nat → Int32)) (S : St) (T : St) (d0 d1 : Option iV) {x : Int32} {o : Option iV × SS} (hx : f_Inbox_mayBeReady_23 S = some x) (hG : (fun x => (some (vI x), (S, T)) = o) x) : EB scr 0 4 2 cd_Inbox_mayBeReady (23, [d0, d1], []) (S, T) o := by
  unfold f_Inbox_mayBeReady_23 at hx
  try dsimp only at hG
  refine ev_steps 2 (c' := (28, [_, _], [vI (1 : Int32)])) (h' := (S, T)) rfl ?_
  cases hx
  subst hG
  exact ev_ret rfl rfl
def f_Inbox_mayBeReady (u : Nat) (u1 : Nat) (S : St) : Option (Int32) :=
  if (nz (S cWord_unordered u1 0)) = 0 then (if inb (S cWord_stream u1 0) 3 = true then if (S cWord_order u1 0) = (S cInbox_nextOrders u (ix (S cWord_stream u1 0))) then f_Inbox_mayBeReady_23 S else some (0 : Int32) else none) else f_Inbox_mayBeReady_23 S
theorem t_Inbox_mayBeReady (scr : Nat × (Nat → Int32)) (u : Nat) (u1 : Nat) (S T : St) {x : Int32} {o : Option iV × SS} (hx : f_Inbox_mayBeReady u u1 S = some x) (hG : (some (vI x), (S, T)) = o) : E0 scr 1 120 [vR 4 u, vR 12 u1] (S, T) o := by
  refine ev_meth (ls := [some (vR 4 u), some (vR 12 u1)]) rfl rfl rfl ?_
  unfold f_Inbox_mayBeReady at hx
  refine ev_steps 2 (c' := (4, [some (vR 4 u), some (vR 12 u1)], [vI (nz (S cWord_unordered u1 0))])) (h' := (S, T)) rfl ?_
  refine ev_if_ne rfl (fun hc => ?_) (fun hc => ?_)
  · rw [if_pos hc] at hx
    refine ev_steps 6 (c' := (19, [some (vR 4 u), some (vR 12 u1)], [vI (S cWord_stream u1 0), vR 75 u, vI (S cWord_order u1 0)])) (h' := (S, T)) rfl ?_
    obtain ⟨hg, hx⟩ := ifg hx
    refine ev_iald rfl rfl rfl hg ?_
    refine ev_steps 0 (c' := (20, [some (vR 4 u), some (vR 12 u1)], [vI (S cInbox_nextOrders u (ix (S cWord_stream u1 0))), vI (S cWord_order u1 0)])) (h' := (S, T)) rfl ?_
    refine ev_icmp_ne rfl (fun hc => ?_) (fun hc => ?_)
    · rw [if_pos hc] at hx
      exact t_Inbox_mayBeReady_23 scr S T _ _ hx hG
    · rw [if_neg hc] at hx
      refine ev_steps 1 (c' := (28, [some (vR 4 u), some (vR 12 u1)], [vI (0 : Int32)])) (h' := (S, T)) rfl ?_
      cases hx
      subst hG
      exact ev_ret rfl rfl
  · rw [if_neg hc] at hx
    exact t_Inbox_mayBeReady_23 scr S T _ _ hx hG
-- ReadyList_add
def f_ReadyList_add (u : Nat) (a1 : Int32) (a2 : Int32) (a3 : Int32) (S : St) : Option (St) :=
  if (S cReadyList_count u 0) < (512 : Int32) then (if inb (S cReadyList_count u 0) 512 = true then if inb (S cReadyList_count u 0) 512 = true then if inb (S cReadyList_count u 0) 512 = true then some (up3 (up3 (up3 (up3 (up3 S cReadyList_streams u (ix (S cReadyList_count u 0)) a1) cReadyList_firstWords u (ix (S cReadyList_count u 0)) a2) cReadyList_lengths u (ix (S cReadyList_count u 0)) a3) cReadyList_count u 0 ((S cReadyList_count u 0) + (1 : Int32))) cReadyList_words u 0 ((S cReadyList_words u 0) + a3)) else none else none else none) else some S
theorem t_ReadyList_add (scr : Nat × (Nat → Int32)) (u : Nat) (a1 : Int32) (a2 : Int32) (a3 : Int32) (S T : St) {x : St} {o : Option iV × SS} (hx : f_ReadyList_add u a1 a2 a3 S = some x) (hG : (none, (x, T)) = o) : E0 scr 1 141 [vR 8 u, vI a1, vI a2, vI a3] (S, T) o := by
  refine ev_meth (ls := [some (vR 8 u), some (vI a1), some (vI a2), some (vI a3)]) rfl rfl rfl ?_
  unfold f_ReadyList_add at hx
  refine ev_steps 3 (c' := (7, [some (vR 8 u), some (vI a1), some (vI a2), some (vI a3)], [vI (512 : Int32), vI (S cReadyList_count u 0)])) (h' := (S, T)) rfl ?_
  refine ev_icmp_ge rfl (fun hc => ?_) (fun hc => ?_)
  · rw [if_pos hc] at hx
    refine ev_steps 5 (c' := (19, [some (vR 8 u), some (vI a1), some (vI a2), some (vI a3)], [vI a1, vI (S cReadyList_count u 0), vR 70 u])) (h' := (S, T)) rfl ?_
    obtain ⟨hg, hx⟩ := ifg hx
    refine ev_iast rfl rfl hg ?_
    refine ev_steps 5 (c' := (29, [some (vR 8 u), some (vI a1), some (vI a2), some (vI a3)], [vI a2, vI (S cReadyList_count u 0), vR 71 u])) (h' := (up3 S cReadyList_streams u (ix (S cReadyList_count u 0)) a1, T)) rfl ?_
    obtain ⟨hg, hx⟩ := ifg hx
    refine ev_iast rfl rfl hg ?_
    refine ev_steps 5 (c' := (39, [some (vR 8 u), some (vI a1), some (vI a2), some (vI a3)], [vI a3, vI (S cReadyList_count u 0), vR 72 u])) (h' := (up3 (up3 S cReadyList_streams u (ix (S cReadyList_count u 0)) a1) cReadyList_firstWords u (ix (S cReadyList_count u 0)) a2, T)) rfl ?_
    obtain ⟨hg, hx⟩ := ifg hx
    refine ev_iast rfl rfl hg ?_
    refine ev_steps 12 (c' := (60, [some (vR 8 u), some (vI a1), some (vI a2), some (vI a3)], [])) (h' := (up3 (up3 (up3 (up3 (up3 S cReadyList_streams u (ix (S cReadyList_count u 0)) a1) cReadyList_firstWords u (ix (S cReadyList_count u 0)) a2) cReadyList_lengths u (ix (S cReadyList_count u 0)) a3) cReadyList_count u 0 ((S cReadyList_count u 0) + (1 : Int32))) cReadyList_words u 0 ((S cReadyList_words u 0) + a3), T)) rfl ?_
    cases hx
    subst hG
    exact ev_ret rfl rfl
  · rw [if_neg hc] at hx
    cases hx
    subst hG
    exact ev_ret rfl rfl
-- Inbox_moveToReady
def f_Inbox_moveToReady_49_b (l0 : Nat) (l1 : Int32) (l2 : Int32)  : (Int32 × St) → Option ((Int32 × St) ⊕ (St))
  | (l4, S) => if l4 < l2 then (if inb (f_Inbox_slotOf (l1 + l4)) 32 = true then some (Sum.inl (l4 + (1 : Int32), up3 S cInbox_unready l0 (ix (f_Inbox_slotOf (l1 + l4))) (0 : Int32))) else none) else exW (some (up3 S cInbox_unreadyWords l0 0 ((S cInbox_unreadyWords l0 0) - l2)))
def f_Inbox_moveToReady_49 (l0 : Nat) (l1 : Int32) (l2 : Int32)  (q : Int32 × St) : Option (St) := iter (f_Inbox_moveToReady_49_b l0 l1 l2) 4096 q
theorem t_Inbox_moveToReady_49_b (scr : Nat × (Nat → Int32)) (l0 : Nat) (l1 : Int32) (l2 : Int32) (l4 : Int32) (S : St) (T : St) (d3 : Option iV) {x : (Int32 × St) ⊕ (St)} {o : Option iV × SS} (hx : f_Inbox_moveToReady_49_b l0 l1 l2 (l4, S) = some x) (hG : (Sum.elim (fun q => ∀ d3 : Option iV, EB scr 1 4 0 cd_Inbox_moveToReady (49, [some (vR 4 l0), some (vI l1), some (vI l2), d3, some (vI q.1)], []) (q.2, T) o) (fun x => (none, (x, T)) = o)) x) : EB scr 1 4 0 cd_Inbox_moveToReady (49, [some (vR 4 l0), some (vI l1), some (vI l2), d3, some (vI l4)], []) (S, T) o := by
  unfold f_Inbox_moveToReady_49_b at hx
  dsimp only at hx
  refine ev_steps 2 (c' := (52, [some (vR 4 l0), some (vI l1), some (vI l2), _, some (vI l4)], [vI l2, vI l4])) (h' := (S, T)) rfl ?_
  refine ev_icmp_ge rfl (fun hc => ?_) (fun hc => ?_)
  · rw [if_pos hc] at hx
    refine ev_steps 5 (c' := (63, [some (vR 4 l0), some (vI l1), some (vI l2), _, some (vI l4)], [vI (l1 + l4), vR 74 l0])) (h' := (S, T)) rfl ?_
    refine ev_call rfl rfl rfl rfl rfl rfl rfl rfl rfl ((t_Inbox_slotOf scr (l1 + l4) S T rfl).mono (by decide)) ?_
    refine ev_steps 1 (c' := (67, [some (vR 4 l0), some (vI l1), some (vI l2), _, some (vI l4)], [vI (0 : Int32), vI (f_Inbox_slotOf (l1 + l4)), vR 74 l0])) (h' := (S, T)) rfl ?_
    obtain ⟨hg, hx⟩ := ifg hx
    refine ev_bast rfl rfl hg rfl ?_
    refine ev_steps 2 (c' := (49, [some (vR 4 l0), some (vI l1), some (vI l2), _, some (vI (l4 + (1 : Int32)))], [])) (h' := (up3 S cInbox_unready l0 (ix (f_Inbox_slotOf (l1 + l4))) (0 : Int32), T)) rfl ?_
    cases hx
    exact hG _
  · rw [if_neg hc] at hx
    obtain ⟨x, hy, rfl⟩ := exW_some hx
    replace hx := hy
    simp only [Sum.elim_inr] at hG
    refine ev_steps 6 (c' := (84, [some (vR 4 l0), some (vI l1), some (vI l2), _, some (vI l4)], [])) (h' := (up3 S cInbox_unreadyWords l0 0 ((S cInbox_unreadyWords l0 0) - l2), T)) rfl ?_
    cases hx
    subst hG
    exact ev_ret rfl rfl
theorem t_Inbox_moveToReady_49 (scr : Nat × (Nat → Int32)) (l0 : Nat) (l1 : Int32) (l2 : Int32) (l4 : Int32) (S : St) (T : St) (d3 : Option iV) {x : St} {o : Option iV × SS} (hx : f_Inbox_moveToReady_49 l0 l1 l2 (l4, S) = some x) (hG : (fun x => (none, (x, T)) = o) x) : EB scr 1 4 0 cd_Inbox_moveToReady (49, [some (vR 4 l0), some (vI l1), some (vI l2), d3, some (vI l4)], []) (S, T) o := by
  exact iter_ind (P := fun q => ∀ d3 : Option iV, EB scr 1 4 0 cd_Inbox_moveToReady (49, [some (vR 4 l0), some (vI l1), some (vI l2), d3, some (vI q.1)], []) (q.2, T) o) (G := fun x => (none, (x, T)) = o) (fun q x hb hP d3 => t_Inbox_moveToReady_49_b scr l0 l1 l2 q.1 q.2 T d3 hb hP) hx hG d3
def f_Inbox_moveToReady_46 (l0 : Nat) (l1 : Int32) (l2 : Int32) (S : St) : Option (St) :=
  f_Inbox_moveToReady_49 l0 l1 l2 ((0 : Int32), S)
theorem t_Inbox_moveToReady_46 (scr : Nat × (Nat → Int32)) (l0 : Nat) (l1 : Int32) (l2 : Int32) (S : St) (T : St) (d3 d4 : Option iV) {x : St} {o : Option iV × SS} (hx : f_Inbox_moveToReady_46 l0 l1 l2 S = some x) (hG : (fun x => (none, (x, T)) = o) x) : EB scr 1 4 0 cd_Inbox_moveToReady (46, [some (vR 4 l0), some (vI l1), some (vI l2), d3, d4], []) (S, T) o := by
  unfold f_Inbox_moveToReady_46 at hx
  try dsimp only at hG
  refine ev_steps 2 (c' := (49, [some (vR 4 l0), some (vI l1), some (vI l2), _, some (vI (0 : Int32))], [])) (h' := (S, T)) rfl ?_
  exact t_Inbox_moveToReady_49 scr l0 l1 l2 (0 : Int32) S T _ hx hG
def f_Inbox_moveToReady (u : Nat) (a1 : Int32) (a2 : Int32) (S : St) : Option (St) :=
  if inb (f_Inbox_slotOf a1) 32 = true then bd (f_ReadyList_add u (S cWord_stream (32 * u + ix (f_Inbox_slotOf a1) + 84) 0) (S cWord_value (32 * u + ix (f_Inbox_slotOf a1) + 84) 0) a2 S) (fun S108 => if (nz (S108 cWord_unordered (32 * u + ix (f_Inbox_slotOf a1) + 84) 0)) = 0 then (if inb (S108 cWord_stream (32 * u + ix (f_Inbox_slotOf a1) + 84) 0) 3 = true then if inb (S108 cWord_stream (32 * u + ix (f_Inbox_slotOf a1) + 84) 0) 3 = true then f_Inbox_moveToReady_46 u a1 a2 (up3 S108 cInbox_nextOrders u (ix (S108 cWord_stream (32 * u + ix (f_Inbox_slotOf a1) + 84) 0)) ((S108 cInbox_nextOrders u (ix (S108 cWord_stream (32 * u + ix (f_Inbox_slotOf a1) + 84) 0))) + (1 : Int32))) else none else none) else f_Inbox_moveToReady_46 u a1 a2 S108) else none
theorem t_Inbox_moveToReady (scr : Nat × (Nat → Int32)) (u : Nat) (a1 : Int32) (a2 : Int32) (S T : St) {x : St} {o : Option iV × SS} (hx : f_Inbox_moveToReady u a1 a2 S = some x) (hG : (none, (x, T)) = o) : E0 scr 2 121 [vR 4 u, vI a1, vI a2] (S, T) o := by
  refine ev_meth (ls := [some (vR 4 u), some (vI a1), some (vI a2), none, none]) rfl rfl rfl ?_
  unfold f_Inbox_moveToReady at hx
  refine ev_steps 3 (c' := (5, [some (vR 4 u), some (vI a1), some (vI a2), none, none], [vI a1, vR 73 u])) (h' := (S, T)) rfl ?_
  refine ev_call rfl rfl rfl rfl rfl rfl rfl rfl rfl ((t_Inbox_slotOf scr a1 S T rfl).mono (by decide)) ?_
  refine ev_steps 0 (c' := (8, [some (vR 4 u), some (vI a1), some (vI a2), none, none], [vI (f_Inbox_slotOf a1), vR 73 u])) (h' := (S, T)) rfl ?_
  obtain ⟨hg, hx⟩ := ifg hx
  refine ev_aald4 rfl rfl hg ?_
  refine ev_steps 8 (c' := (23, [some (vR 4 u), some (vI a1), some (vI a2), some (vR 12 (32 * u + ix (f_Inbox_slotOf a1) + 84)), none], [vI a2, vI (S cWord_value (32 * u + ix (f_Inbox_slotOf a1) + 84) 0), vI (S cWord_stream (32 * u + ix (f_Inbox_slotOf a1) + 84) 0), vR 8 u])) (h' := (S, T)) rfl ?_
  obtain ⟨S108, hc, hx⟩ := bd_some hx
  refine ev_call rfl rfl rfl rfl rfl rfl rfl rfl rfl ((t_ReadyList_add scr u (S cWord_stream (32 * u + ix (f_Inbox_slotOf a1) + 84) 0) (S cWord_value (32 * u + ix (f_Inbox_slotOf a1) + 84) 0) a2 S T hc rfl).mono (by decide)) ?_
  refine ev_steps 2 (c' := (30, [some (vR 4 u), some (vI a1), some (vI a2), some (vR 12 (32 * u + ix (f_Inbox_slotOf a1) + 84)), none], [vI (nz (S108 cWord_unordered (32 * u + ix (f_Inbox_slotOf a1) + 84) 0))])) (h' := (S108, T)) rfl ?_
  refine ev_if_ne rfl (fun hc => ?_) (fun hc => ?_)
  · rw [if_pos hc] at hx
    refine ev_steps 5 (c' := (42, [some (vR 4 u), some (vI a1), some (vI a2), some (vR 12 (32 * u + ix (f_Inbox_slotOf a1) + 84)), none], [vI (S108 cWord_stream (32 * u + ix (f_Inbox_slotOf a1) + 84) 0), vR 75 u, vI (S108 cWord_stream (32 * u + ix (f_Inbox_slotOf a1) + 84) 0), vR 75 u])) (h' := (S108, T)) rfl ?_
    obtain ⟨hg, hx⟩ := ifg hx
    refine ev_iald rfl rfl rfl hg ?_
    refine ev_steps 2 (c' := (45, [some (vR 4 u), some (vI a1), some (vI a2), some (vR 12 (32 * u + ix (f_Inbox_slotOf a1) + 84)), none], [vI ((S108 cInbox_nextOrders u (ix (S108 cWord_stream (32 * u + ix (f_Inbox_slotOf a1) + 84) 0))) + (1 : Int32)), vI (S108 cWord_stream (32 * u + ix (f_Inbox_slotOf a1) + 84) 0), vR 75 u])) (h' := (S108, T)) rfl ?_
    obtain ⟨hg, hx⟩ := ifg hx
    refine ev_iast rfl rfl hg ?_
    refine ev_steps 0 (c' := (46, [some (vR 4 u), some (vI a1), some (vI a2), some (vR 12 (32 * u + ix (f_Inbox_slotOf a1) + 84)), none], [])) (h' := (up3 S108 cInbox_nextOrders u (ix (S108 cWord_stream (32 * u + ix (f_Inbox_slotOf a1) + 84) 0)) ((S108 cInbox_nextOrders u (ix (S108 cWord_stream (32 * u + ix (f_Inbox_slotOf a1) + 84) 0))) + (1 : Int32)), T)) rfl ?_
    exact t_Inbox_moveToReady_46 scr u a1 a2 (up3 S108 cInbox_nextOrders u (ix (S108 cWord_stream (32 * u + ix (f_Inbox_slotOf a1) + 84) 0)) ((S108 cInbox_nextOrders u (ix (S108 cWord_stream (32 * u + ix (f_Inbox_slotOf a1) + 84) 0))) + (1 : Int32))) T _ _ hx hG
  · rw [if_neg hc] at hx
    exact t_Inbox_moveToReady_46 scr u a1 a2 S108 T _ _ hx hG
-- Inbox_makeReady
def f_Inbox_makeReady_52 (l0 : Nat) (l1 : Int32) (S : St) : Option ((Int32 × St) ⊕ (St)) :=
  some (Sum.inl (l1 + (1 : Int32), S))
theorem t_Inbox_makeReady_52 (scr : Nat × (Nat → Int32)) (l0 : Nat) (l1 : Int32) (S : St) (T : St) (d2 : Option iV) {x : (Int32 × St) ⊕ (St)} {o : Option iV × SS} (hx : f_Inbox_makeReady_52 l0 l1 S = some x) (hG : (Sum.elim (fun q => ∀ d2 : Option iV, EB scr 2 4 0 cd_Inbox_makeReady (9, [some (vR 4 l0), some (vI q.1), d2], []) (q.2, T) o) (fun x => (none, (x, T)) = o)) x) : EB scr 2 4 0 cd_Inbox_makeReady (52, [some (vR 4 l0), some (vI l1), d2], []) (S, T) o := by
  unfold f_Inbox_makeReady_52 at hx
  try dsimp only at hG
  refine ev_steps 2 (c' := (9, [some (vR 4 l0), some (vI (l1 + (1 : Int32))), _], [])) (h' := (S, T)) rfl ?_
  cases hx
  exact hG _
def f_Inbox_makeReady_9_b (l0 : Nat)  : (Int32 × St) → Option ((Int32 × St) ⊕ (St))
  | (l1, S) => if ((S cInbox_latest l0 0) + (16 : Int32)) < l1 then exW (some S) else (bd (f_Inbox_wholeLength l0 l1 S) (fun r109 => if 0 < r109 then (if inb (f_Inbox_slotOf l1) 32 = true then bd (f_Inbox_mayBeReady l0 (32 * l0 + ix (f_Inbox_slotOf l1) + 84) S) (fun r111 => if r111 = 0 then f_Inbox_makeReady_52 l0 l1 S else (bd (f_Inbox_moveToReady l0 l1 r109 S) (fun S114 => f_Inbox_makeReady_52 l0 l1 S114))) else none) else f_Inbox_makeReady_52 l0 l1 S))
def f_Inbox_makeReady_9 (l0 : Nat)  (q : Int32 × St) : Option (St) := iter (f_Inbox_makeReady_9_b l0) 4096 q
theorem t_Inbox_makeReady_9_b (scr : Nat × (Nat → Int32)) (l0 : Nat) (l1 : Int32) (S : St) (T : St) (d2 : Option iV) {x : (Int32 × St) ⊕ (St)} {o : Option iV × SS} (hx : f_Inbox_makeReady_9_b l0 (l1, S) = some x) (hG : (Sum.elim (fun q => ∀ d2 : Option iV, EB scr 2 4 0 cd_Inbox_makeReady (9, [some (vR 4 l0), some (vI q.1), d2], []) (q.2, T) o) (fun x => (none, (x, T)) = o)) x) : EB scr 2 4 0 cd_Inbox_makeReady (9, [some (vR 4 l0), some (vI l1), d2], []) (S, T) o := by
  unfold f_Inbox_makeReady_9_b at hx
  dsimp only at hx
  refine ev_steps 5 (c' := (17, [some (vR 4 l0), some (vI l1), _], [vI ((S cInbox_latest l0 0) + (16 : Int32)), vI l1])) (h' := (S, T)) rfl ?_
  refine ev_icmp_gt rfl (fun hc => ?_) (fun hc => ?_)
  · rw [if_pos hc] at hx
    obtain ⟨x, hy, rfl⟩ := exW_some hx
    replace hx := hy
    simp only [Sum.elim_inr] at hG
    cases hx
    subst hG
    exact ev_ret rfl rfl
  · rw [if_neg hc] at hx
    refine ev_steps 2 (c' := (22, [some (vR 4 l0), some (vI l1), _], [vI l1, vR 4 l0])) (h' := (S, T)) rfl ?_
    obtain ⟨r109, hc, hx⟩ := bd_some hx
    refine ev_call rfl rfl rfl rfl rfl rfl rfl rfl rfl ((t_Inbox_wholeLength scr l0 l1 S T hc rfl).mono (by decide)) ?_
    refine ev_steps 2 (c' := (27, [some (vR 4 l0), some (vI l1), some (vI r109)], [vI r109])) (h' := (S, T)) rfl ?_
    refine ev_if_le rfl (fun hc => ?_) (fun hc => ?_)
    · rw [if_pos hc] at hx
      refine ev_steps 4 (c' := (36, [some (vR 4 l0), some (vI l1), some (vI r109)], [vI l1, vR 73 l0, vR 4 l0])) (h' := (S, T)) rfl ?_
      refine ev_call rfl rfl rfl rfl rfl rfl rfl rfl rfl ((t_Inbox_slotOf scr l1 S T rfl).mono (by decide)) ?_
      refine ev_steps 0 (c' := (39, [some (vR 4 l0), some (vI l1), some (vI r109)], [vI (f_Inbox_slotOf l1), vR 73 l0, vR 4 l0])) (h' := (S, T)) rfl ?_
      obtain ⟨hg, hx⟩ := ifg hx
      refine ev_aald4 rfl rfl hg ?_
      refine ev_steps 0 (c' := (40, [some (vR 4 l0), some (vI l1), some (vI r109)], [vR 12 (32 * l0 + ix (f_Inbox_slotOf l1) + 84), vR 4 l0])) (h' := (S, T)) rfl ?_
      obtain ⟨r111, hc, hx⟩ := bd_some hx
      refine ev_call rfl rfl rfl rfl rfl rfl rfl rfl rfl ((t_Inbox_mayBeReady scr l0 (32 * l0 + ix (f_Inbox_slotOf l1) + 84) S T hc rfl).mono (by decide)) ?_
      refine ev_steps 0 (c' := (43, [some (vR 4 l0), some (vI l1), some (vI r109)], [vI r111])) (h' := (S, T)) rfl ?_
      refine ev_if_eq rfl (fun hc => ?_) (fun hc => ?_)
      · rw [if_pos hc] at hx
        exact t_Inbox_makeReady_52 scr l0 l1 S T _ hx hG
      · rw [if_neg hc] at hx
        refine ev_steps 3 (c' := (49, [some (vR 4 l0), some (vI l1), some (vI r109)], [vI r109, vI l1, vR 4 l0])) (h' := (S, T)) rfl ?_
        obtain ⟨S114, hc, hx⟩ := bd_some hx
        refine ev_call rfl rfl rfl rfl rfl rfl rfl rfl rfl ((t_Inbox_moveToReady scr l0 l1 r109 S T hc rfl).mono (by decide)) ?_
        refine ev_steps 0 (c' := (52, [some (vR 4 l0), some (vI l1), some (vI r109)], [])) (h' := (S114, T)) rfl ?_
        exact t_Inbox_makeReady_52 scr l0 l1 S114 T _ hx hG
    · rw [if_neg hc] at hx
      exact t_Inbox_makeReady_52 scr l0 l1 S T _ hx hG
theorem t_Inbox_makeReady_9 (scr : Nat × (Nat → Int32)) (l0 : Nat) (l1 : Int32) (S : St) (T : St) (d2 : Option iV) {x : St} {o : Option iV × SS} (hx : f_Inbox_makeReady_9 l0 (l1, S) = some x) (hG : (fun x => (none, (x, T)) = o) x) : EB scr 2 4 0 cd_Inbox_makeReady (9, [some (vR 4 l0), some (vI l1), d2], []) (S, T) o := by
  exact iter_ind (P := fun q => ∀ d2 : Option iV, EB scr 2 4 0 cd_Inbox_makeReady (9, [some (vR 4 l0), some (vI q.1), d2], []) (q.2, T) o) (G := fun x => (none, (x, T)) = o) (fun q x hb hP d2 => t_Inbox_makeReady_9_b scr l0 q.1 q.2 T d2 hb hP) hx hG d2
def f_Inbox_makeReady (u : Nat) (S : St) : Option (St) :=
  f_Inbox_makeReady_9 u (((S cInbox_latest u 0) + (1 : Int32)) - (4 : Int32), S)
theorem t_Inbox_makeReady (scr : Nat × (Nat → Int32)) (u : Nat) (S T : St) {x : St} {o : Option iV × SS} (hx : f_Inbox_makeReady u S = some x) (hG : (none, (x, T)) = o) : E0 scr 3 118 [vR 4 u] (S, T) o := by
  refine ev_meth (ls := [some (vR 4 u), none, none]) rfl rfl rfl ?_
  unfold f_Inbox_makeReady at hx
  refine ev_steps 7 (c' := (9, [some (vR 4 u), some (vI (((S cInbox_latest u 0) + (1 : Int32)) - (4 : Int32))), none], [])) (h' := (S, T)) rfl ?_
  exact t_Inbox_makeReady_9 scr u (((S cInbox_latest u 0) + (1 : Int32)) - (4 : Int32)) S T _ hx hG
-- Inbox_take
def f_Inbox_take_53_b (l0 : Nat)  : (Int32 × St) → Option ((Int32 × St) ⊕ (St))
  | (l3, S) => if l3 < (16 : Int32) then (bd (f_Inbox_has l0 ((S cInbox_latest l0 0) + (1 : Int32)) S) (fun r119 => if r119 = 0 then exW (some S) else some (Sum.inl (l3 + (1 : Int32), up3 S cInbox_latest l0 0 ((S cInbox_latest l0 0) + (1 : Int32)))))) else exW (some S)
def f_Inbox_take_53 (l0 : Nat)  (q : Int32 × St) : Option (St) := iter (f_Inbox_take_53_b l0) 4096 q
theorem t_Inbox_take_53_b (scr : Nat × (Nat → Int32)) (l0 : Nat) (l3 : Int32) (S : St) (T : St) (d1 d2 : Option iV) {x : (Int32 × St) ⊕ (St)} {o : Option iV × SS} (hx : f_Inbox_take_53_b l0 (l3, S) = some x) (hG : (Sum.elim (fun q => ∀ d1 d2 : Option iV, EB scr 3 4 0 cd_Inbox_take (53, [some (vR 4 l0), d1, d2, some (vI q.1)], []) (q.2, T) o) (fun x => (none, (x, T)) = o)) x) : EB scr 3 4 0 cd_Inbox_take (53, [some (vR 4 l0), d1, d2, some (vI l3)], []) (S, T) o := by
  unfold f_Inbox_take_53_b at hx
  dsimp only at hx
  refine ev_steps 2 (c' := (56, [some (vR 4 l0), _, _, some (vI l3)], [vI (16 : Int32), vI l3])) (h' := (S, T)) rfl ?_
  refine ev_icmp_ge rfl (fun hc => ?_) (fun hc => ?_)
  · rw [if_pos hc] at hx
    refine ev_steps 5 (c' := (66, [some (vR 4 l0), _, _, some (vI l3)], [vI ((S cInbox_latest l0 0) + (1 : Int32)), vR 4 l0])) (h' := (S, T)) rfl ?_
    obtain ⟨r119, hc, hx⟩ := bd_some hx
    refine ev_call rfl rfl rfl rfl rfl rfl rfl rfl rfl ((t_Inbox_has scr l0 ((S cInbox_latest l0 0) + (1 : Int32)) S T hc rfl).mono (by decide)) ?_
    refine ev_steps 0 (c' := (69, [some (vR 4 l0), _, _, some (vI l3)], [vI r119])) (h' := (S, T)) rfl ?_
    refine ev_if_eq rfl (fun hc => ?_) (fun hc => ?_)
    · rw [if_pos hc] at hx
      obtain ⟨x, hy, rfl⟩ := exW_some hx
      replace hx := hy
      simp only [Sum.elim_inr] at hG
      cases hx
      subst hG
      exact ev_ret rfl rfl
    · rw [if_neg hc] at hx
      refine ev_steps 8 (c' := (53, [some (vR 4 l0), _, _, some (vI (l3 + (1 : Int32)))], [])) (h' := (up3 S cInbox_latest l0 0 ((S cInbox_latest l0 0) + (1 : Int32)), T)) rfl ?_
      cases hx
      exact hG _ _
  · rw [if_neg hc] at hx
    obtain ⟨x, hy, rfl⟩ := exW_some hx
    replace hx := hy
    simp only [Sum.elim_inr] at hG
    cases hx
    subst hG
    exact ev_ret rfl rfl
theorem t_Inbox_take_53 (scr : Nat × (Nat → Int32)) (l0 : Nat) (l3 : Int32) (S : St) (T : St) (d1 d2 : Option iV) {x : St} {o : Option iV × SS} (hx : f_Inbox_take_53 l0 (l3, S) = some x) (hG : (fun x => (none, (x, T)) = o) x) : EB scr 3 4 0 cd_Inbox_take (53, [some (vR 4 l0), d1, d2, some (vI l3)], []) (S, T) o := by
  exact iter_ind (P := fun q => ∀ d1 d2 : Option iV, EB scr 3 4 0 cd_Inbox_take (53, [some (vR 4 l0), d1, d2, some (vI q.1)], []) (q.2, T) o) (G := fun x => (none, (x, T)) = o) (fun q x hb hP d1 d2 => t_Inbox_take_53_b scr l0 q.1 q.2 T d1 d2 hb hP) hx hG d1 d2
def f_Inbox_take (u : Nat) (u1 : Nat) (S : St) : Option (St) :=
  bd (f_Inbox_isDropped u (S cWord_number u1 0) S) (fun r115 => if r115 = 0 then (if inb (f_Inbox_slotOf (S cWord_number u1 0)) 32 = true then if inb (f_Inbox_slotOf (S cWord_number u1 0)) 32 = true then bd (f_Inbox_makeReady u (up3 (up3 (f_Word_copyFrom (32 * u + ix (f_Inbox_slotOf (S cWord_number u1 0)) + 84) u1 S) cInbox_unready u (ix (f_Inbox_slotOf (S cWord_number u1 0))) (1 : Int32)) cInbox_unreadyWords u 0 (((f_Word_copyFrom (32 * u + ix (f_Inbox_slotOf (S cWord_number u1 0)) + 84) u1 S) cInbox_unreadyWords u 0) + (1 : Int32)))) (fun S118 => f_Inbox_take_53 u ((0 : Int32), S118)) else none else none) else some S)
theorem t_Inbox_take (scr : Nat × (Nat → Int32)) (u : Nat) (u1 : Nat) (S T : St) {x : St} {o : Option iV × SS} (hx : f_Inbox_take u u1 S = some x) (hG : (none, (x, T)) = o) : E0 scr 4 114 [vR 4 u, vR 12 u1] (S, T) o := by
  refine ev_meth (ls := [some (vR 4 u), some (vR 12 u1), none, none]) rfl rfl rfl ?_
  unfold f_Inbox_take at hx
  refine ev_steps 3 (c' := (5, [some (vR 4 u), some (vR 12 u1), none, none], [vI (S cWord_number u1 0), vR 4 u])) (h' := (S, T)) rfl ?_
  obtain ⟨r115, hc, hx⟩ := bd_some hx
  refine ev_call rfl rfl rfl rfl rfl rfl rfl rfl rfl ((t_Inbox_isDropped scr u (S cWord_number u1 0) S T hc rfl).mono (by decide)) ?_
  refine ev_steps 0 (c' := (8, [some (vR 4 u), some (vR 12 u1), none, none], [vI r115])) (h' := (S, T)) rfl ?_
  refine ev_if_eq rfl (fun hc => ?_) (fun hc => ?_)
  · rw [if_pos hc] at hx
    refine ev_steps 2 (c' := (16, [some (vR 4 u), some (vR 12 u1), none, none], [vI (S cWord_number u1 0)])) (h' := (S, T)) rfl ?_
    refine ev_call rfl rfl rfl rfl rfl rfl rfl rfl rfl ((t_Inbox_slotOf scr (S cWord_number u1 0) S T rfl).mono (by decide)) ?_
    refine ev_steps 4 (c' := (25, [some (vR 4 u), some (vR 12 u1), some (vI (f_Inbox_slotOf (S cWord_number u1 0))), none], [vI (f_Inbox_slotOf (S cWord_number u1 0)), vR 73 u])) (h' := (S, T)) rfl ?_
    obtain ⟨hg, hx⟩ := ifg hx
    refine ev_aald4 rfl rfl hg ?_
    refine ev_steps 1 (c' := (27, [some (vR 4 u), some (vR 12 u1), some (vI (f_Inbox_slotOf (S cWord_number u1 0))), none], [vR 12 u1, vR 12 (32 * u + ix (f_Inbox_slotOf (S cWord_number u1 0)) + 84)])) (h' := (S, T)) rfl ?_
    refine ev_call rfl rfl rfl rfl rfl rfl rfl rfl rfl ((t_Word_copyFrom scr (32 * u + ix (f_Inbox_slotOf (S cWord_number u1 0)) + 84) u1 S T rfl).mono (by decide)) ?_
    refine ev_steps 4 (c' := (36, [some (vR 4 u), some (vR 12 u1), some (vI (f_Inbox_slotOf (S cWord_number u1 0))), none], [vI (1 : Int32), vI (f_Inbox_slotOf (S cWord_number u1 0)), vR 74 u])) (h' := ((f_Word_copyFrom (32 * u + ix (f_Inbox_slotOf (S cWord_number u1 0)) + 84) u1 S), T)) rfl ?_
    obtain ⟨hg, hx⟩ := ifg hx
    refine ev_bast rfl rfl hg rfl ?_
    refine ev_steps 7 (c' := (48, [some (vR 4 u), some (vR 12 u1), some (vI (f_Inbox_slotOf (S cWord_number u1 0))), none], [vR 4 u])) (h' := (up3 (up3 (f_Word_copyFrom (32 * u + ix (f_Inbox_slotOf (S cWord_number u1 0)) + 84) u1 S) cInbox_unready u (ix (f_Inbox_slotOf (S cWord_number u1 0))) (1 : Int32)) cInbox_unreadyWords u 0 (((f_Word_copyFrom (32 * u + ix (f_Inbox_slotOf (S cWord_number u1 0)) + 84) u1 S) cInbox_unreadyWords u 0) + (1 : Int32)), T)) rfl ?_
    obtain ⟨S118, hc, hx⟩ := bd_some hx
    refine ev_call rfl rfl rfl rfl rfl rfl rfl rfl rfl ((t_Inbox_makeReady scr u (up3 (up3 (f_Word_copyFrom (32 * u + ix (f_Inbox_slotOf (S cWord_number u1 0)) + 84) u1 S) cInbox_unready u (ix (f_Inbox_slotOf (S cWord_number u1 0))) (1 : Int32)) cInbox_unreadyWords u 0 (((f_Word_copyFrom (32 * u + ix (f_Inbox_slotOf (S cWord_number u1 0)) + 84) u1 S) cInbox_unreadyWords u 0) + (1 : Int32))) T hc rfl).mono (by decide)) ?_
    refine ev_steps 2 (c' := (53, [some (vR 4 u), some (vR 12 u1), some (vI (f_Inbox_slotOf (S cWord_number u1 0))), some (vI (0 : Int32))], [])) (h' := (S118, T)) rfl ?_
    exact t_Inbox_take_53 scr u (0 : Int32) S118 T _ _ hx hG
  · rw [if_neg hc] at hx
    cases hx
    subst hG
    exact ev_ret rfl rfl
-- Inbox_gaps
def f_Inbox_gaps_31 (l0 : Nat) (l1 : Int32) (l2 : Int32) (S : St) : Option ((Int32 × Int32) ⊕ (Int32)) :=
  some (Sum.inl (l1, l2 + (1 : Int32)))
theorem t_Inbox_gaps_31 (scr : Nat × (Nat → Int32)) (l0 : Nat) (l1 : Int32) (l2 : Int32) (S : St) (T : St) {x : (Int32 × Int32) ⊕ (Int32)} {o : Option iV × SS} (hx : f_Inbox_gaps_31 l0 l1 l2 S = some x) (hG : (Sum.elim (fun q => EB scr 2 4 1 cd_Inbox_gaps (4, [some (vR 4 l0), some (vI q.1), some (vI q.2)], []) (S, T) o) (fun x => (some (vI x), (S, T)) = o)) x) : EB scr 2 4 1 cd_Inbox_gaps (31, [some (vR 4 l0), some (vI l1), some (vI l2)], []) (S, T) o := by
  unfold f_Inbox_gaps_31 at hx
  try dsimp only at hG
  refine ev_steps 2 (c' := (4, [some (vR 4 l0), some (vI l1), some (vI (l2 + (1 : Int32)))], [])) (h' := (S, T)) rfl ?_
  cases hx
  exact hG
def f_Inbox_gaps_4_b (l0 : Nat) (S : St) : (Int32 × Int32) → Option ((Int32 × Int32) ⊕ (Int32))
  | (l1, l2) => if l2 < (16 : Int32) then (bd (f_Inbox_has l0 (((S cInbox_latest l0 0) + (1 : Int32)) + l2) S) (fun r121 => if r121 = 0 then f_Inbox_gaps_31 l0 l1 l2 S else f_Inbox_gaps_31 l0 (l1 ||| (iShl (1 : Int32) l2)) l2 S)) else exW (some l1)
def f_Inbox_gaps_4 (l0 : Nat) (S : St) (q : Int32 × Int32) : Option (Int32) := iter (f_Inbox_gaps_4_b l0 S) 4096 q
theorem t_Inbox_gaps_4_b (scr : Nat × (Nat → Int32)) (l0 : Nat) (l1 : Int32) (l2 : Int32) (S : St) (T : St) {x : (Int32 × Int32) ⊕ (Int32)} {o : Option iV × SS} (hx : f_Inbox_gaps_4_b l0 S (l1, l2) = some x) (hG : (Sum.elim (fun q => EB scr 2 4 1 cd_Inbox_gaps (4, [some (vR 4 l0), some (vI q.1), some (vI q.2)], []) (S, T) o) (fun x => (some (vI x), (S, T)) = o)) x) : EB scr 2 4 1 cd_Inbox_gaps (4, [some (vR 4 l0), some (vI l1), some (vI l2)], []) (S, T) o := by
  unfold f_Inbox_gaps_4_b at hx
  dsimp only at hx
  refine ev_steps 2 (c' := (7, [some (vR 4 l0), some (vI l1), some (vI l2)], [vI (16 : Int32), vI l2])) (h' := (S, T)) rfl ?_
  refine ev_icmp_ge rfl (fun hc => ?_) (fun hc => ?_)
  · rw [if_pos hc] at hx
    refine ev_steps 7 (c' := (19, [some (vR 4 l0), some (vI l1), some (vI l2)], [vI (((S cInbox_latest l0 0) + (1 : Int32)) + l2), vR 4 l0])) (h' := (S, T)) rfl ?_
    obtain ⟨r121, hc, hx⟩ := bd_some hx
    refine ev_call rfl rfl rfl rfl rfl rfl rfl rfl rfl ((t_Inbox_has scr l0 (((S cInbox_latest l0 0) + (1 : Int32)) + l2) S T hc rfl).mono (by decide)) ?_
    refine ev_steps 0 (c' := (22, [some (vR 4 l0), some (vI l1), some (vI l2)], [vI r121])) (h' := (S, T)) rfl ?_
    refine ev_if_eq rfl (fun hc => ?_) (fun hc => ?_)
    · rw [if_pos hc] at hx
      exact t_Inbox_gaps_31 scr l0 l1 l2 S T hx hG
    · rw [if_neg hc] at hx
      refine ev_steps 6 (c' := (31, [some (vR 4 l0), some (vI (l1 ||| (iShl (1 : Int32) l2))), some (vI l2)], [])) (h' := (S, T)) rfl ?_
      exact t_Inbox_gaps_31 scr l0 (l1 ||| (iShl (1 : Int32) l2)) l2 S T hx hG
  · rw [if_neg hc] at hx
    obtain ⟨x, hy, rfl⟩ := exW_some hx
    replace hx := hy
    simp only [Sum.elim_inr] at hG
    refine ev_steps 1 (c' := (38, [some (vR 4 l0), some (vI l1), some (vI l2)], [vI l1])) (h' := (S, T)) rfl ?_
    cases hx
    subst hG
    exact ev_ret rfl rfl
theorem t_Inbox_gaps_4 (scr : Nat × (Nat → Int32)) (l0 : Nat) (l1 : Int32) (l2 : Int32) (S : St) (T : St) {x : Int32} {o : Option iV × SS} (hx : f_Inbox_gaps_4 l0 S (l1, l2) = some x) (hG : (fun x => (some (vI x), (S, T)) = o) x) : EB scr 2 4 1 cd_Inbox_gaps (4, [some (vR 4 l0), some (vI l1), some (vI l2)], []) (S, T) o := by
  exact iter_ind (P := fun q => EB scr 2 4 1 cd_Inbox_gaps (4, [some (vR 4 l0), some (vI q.1), some (vI q.2)], []) (S, T) o) (G := fun x => (some (vI x), (S, T)) = o) (fun q x hb hP  => t_Inbox_gaps_4_b scr l0 q.1 q.2 S T hb hP) hx hG 
def f_Inbox_gaps (u : Nat) (S : St) : Option (Int32) :=
  f_Inbox_gaps_4 u S ((0 : Int32), (0 : Int32))
theorem t_Inbox_gaps (scr : Nat × (Nat → Int32)) (u : Nat) (S T : St) {x : Int32} {o : Option iV × SS} (hx : f_Inbox_gaps u S = some x) (hG : (some (vI x), (S, T)) = o) : E0 scr 3 113 [vR 4 u] (S, T) o := by
  refine ev_meth (ls := [some (vR 4 u), none, none]) rfl rfl rfl ?_
  unfold f_Inbox_gaps at hx
  refine ev_steps 4 (c' := (4, [some (vR 4 u), some (vI (0 : Int32)), some (vI (0 : Int32))], [])) (h' := (S, T)) rfl ?_
  exact t_Inbox_gaps_4 scr u (0 : Int32) (0 : Int32) S T hx hG
-- Inbox_window
def f_Inbox_window (u : Nat) (S : St) : Int32 :=
  (f_Math_max (0 : Int32) ((S cInbox_room u 0) - (f_Inbox_kept u S)))
theorem t_Inbox_window (scr : Nat × (Nat → Int32)) (u : Nat) (S T : St) {o : Option iV × SS} (hG : (some (vI (f_Inbox_window u S)), (S, T)) = o) : E0 scr 2 112 [vR 4 u] (S, T) o := by
  refine ev_meth (ls := [some (vR 4 u)]) rfl rfl rfl ?_
  unfold f_Inbox_window at hG
  refine ev_steps 4 (c' := (6, [some (vR 4 u)], [vR 4 u, vI (S cInbox_room u 0), vI (0 : Int32)])) (h' := (S, T)) rfl ?_
  refine ev_call rfl rfl rfl rfl rfl rfl rfl rfl rfl ((t_Inbox_kept scr u S T rfl).mono (by decide)) ?_
  refine ev_steps 1 (c' := (10, [some (vR 4 u)], [vI ((S cInbox_room u 0) - (f_Inbox_kept u S)), vI (0 : Int32)])) (h' := (S, T)) rfl ?_
  refine ev_call rfl rfl rfl rfl rfl rfl rfl rfl rfl ((t_Math_max scr (0 : Int32) ((S cInbox_room u 0) - (f_Inbox_kept u S)) S T rfl).mono (by decide)) ?_
  refine ev_steps 0 (c' := (13, [some (vR 4 u)], [vI (f_Math_max (0 : Int32) ((S cInbox_room u 0) - (f_Inbox_kept u S)))])) (h' := (S, T)) rfl ?_
  subst hG
  exact ev_ret rfl rfl
