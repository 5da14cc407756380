/-! Methods as functions on the store, printed by a program. -/
-- End_mayGo
def f_End_mayGo_53 (S : St) : Option (Int32) :=
  some (1 : Int32)
theorem t_End_mayGo_53 (scr : Nat × (Nat → Int32)) (S : St) (T : St) (d0 d1 d2 d3 : Option iV) {x : Int32} {o : Option iV × SS} (hx : f_End_mayGo_53 S = some x) (hG : (fun x => (some (vI x), (S, T)) = o) x) : EB scr 3 3 2 cd_End_mayGo (53, [d0, d1, d2, d3], []) (S, T) o := by
  unfold f_End_mayGo_53 at hx
  try dsimp only at hG
  refine ev_steps 2 (c' := (58, [_, _, _, _], [vI (1 : Int32)])) (h' := (S, T)) rfl ?_
  cases hx
  subst hG
  exact ev_ret rfl rfl
def f_End_mayGo (u : Nat) (u1 : Nat) (a2 : Int32) (S : St) : Option (Int32) :=
  bd (f_Outbox_countOut u a2 S) (fun r29 => if inb a2 2 = true then if r29 < (S cPath_rate (2 * u + ix a2) 0) then (bd (f_Outbox_countOutOrMarked u S) (fun r31 => if (S cSentWord_state u1 0) = (1 : Int32) then (if r31 = 0 then f_End_mayGo_53 S else (if r31 < (S cOutbox_window u 0) then f_End_mayGo_53 S else some (0 : Int32))) else f_End_mayGo_53 S)) else some (0 : Int32) else none)
theorem t_End_mayGo (scr : Nat × (Nat → Int32)) (u : Nat) (u1 : Nat) (a2 : Int32) (S T : St) {x : Int32} {o : Option iV × SS} (hx : f_End_mayGo u u1 a2 S = some x) (hG : (some (vI x), (S, T)) = o) : E0 scr 4 104 [vR 3 u, vR 10 u1, vI a2] (S, T) o := by
  refine ev_meth (ls := [some (vR 3 u), some (vR 10 u1), some (vI a2), none]) rfl rfl rfl ?_
  unfold f_End_mayGo at hx
  refine ev_steps 3 (c' := (5, [some (vR 3 u), some (vR 10 u1), some (vI a2), none], [vI a2, vR 5 u])) (h' := (S, T)) rfl ?_
  obtain ⟨r29, hc, hx⟩ := bd_some hx
  refine ev_call rfl rfl rfl rfl rfl rfl rfl rfl rfl ((t_Outbox_countOut scr u a2 S T hc rfl).mono (by decide)) ?_
  refine ev_steps 3 (c' := (13, [some (vR 3 u), some (vR 10 u1), some (vI a2), none], [vI a2, vR 67 u, vI r29])) (h' := (S, T)) rfl ?_
  obtain ⟨hg, hx⟩ := ifg hx
  refine ev_aald3 rfl rfl hg ?_
  refine ev_steps 1 (c' := (17, [some (vR 3 u), some (vR 10 u1), some (vI a2), none], [vI (S cPath_rate (2 * u + ix a2) 0), vI r29])) (h' := (S, T)) rfl ?_
  refine ev_icmp_lt rfl (fun hc => ?_) (fun hc => ?_)
  · rw [if_pos hc] at hx
    refine ev_steps 2 (c' := (26, [some (vR 3 u), some (vR 10 u1), some (vI a2), none], [vR 5 u])) (h' := (S, T)) rfl ?_
    obtain ⟨r31, hc, hx⟩ := bd_some hx
    refine ev_call rfl rfl rfl rfl rfl rfl rfl rfl rfl ((t_Outbox_countOutOrMarked scr u S T hc rfl).mono (by decide)) ?_
    refine ev_steps 4 (c' := (35, [some (vR 3 u), some (vR 10 u1), some (vI a2), some (vI r31)], [vI (1 : Int32), vI (S cSentWord_state u1 0)])) (h' := (S, T)) rfl ?_
    refine ev_icmp_ne rfl (fun hc => ?_) (fun hc => ?_)
    · rw [if_pos hc] at hx
      refine ev_steps 1 (c' := (39, [some (vR 3 u), some (vR 10 u1), some (vI a2), some (vI r31)], [vI r31])) (h' := (S, T)) rfl ?_
      refine ev_if_eq rfl (fun hc => ?_) (fun hc => ?_)
      · rw [if_pos hc] at hx
        exact t_End_mayGo_53 scr S T _ _ _ _ hx hG
      · rw [if_neg hc] at hx
        refine ev_steps 4 (c' := (50, [some (vR 3 u), some (vR 10 u1), some (vI a2), some (vI r31)], [vI (S cOutbox_window u 0), vI r31])) (h' := (S, T)) rfl ?_
        refine ev_icmp_ge rfl (fun hc => ?_) (fun hc => ?_)
        · rw [if_pos hc] at hx
          exact t_End_mayGo_53 scr S T _ _ _ _ hx hG
        · rw [if_neg hc] at hx
          refine ev_steps 1 (c' := (58, [some (vR 3 u), some (vR 10 u1), some (vI a2), some (vI r31)], [vI (0 : Int32)])) (h' := (S, T)) rfl ?_
          cases hx
          subst hG
          exact ev_ret rfl rfl
    · rw [if_neg hc] at hx
      exact t_End_mayGo_53 scr S T _ _ _ _ hx hG
  · rw [if_neg hc] at hx
    refine ev_steps 1 (c' := (21, [some (vR 3 u), some (vR 10 u1), some (vI a2), none], [vI (0 : Int32)])) (h' := (S, T)) rfl ?_
    cases hx
    subst hG
    exact ev_ret rfl rfl
-- Word_copyFrom
def f_Word_copyFrom (u : Nat) (u1 : Nat) (S : St) : St :=
  up3 (up3 (up3 (up3 (up3 (up3 (up3 S cWord_number u 0 (S cWord_number u1 0)) cWord_value u 0 (S cWord_value u1 0)) cWord_stream u 0 (S cWord_stream u1 0)) cWord_order u 0 (S cWord_order u1 0)) cWord_first u 0 (nz (S cWord_first u1 0))) cWord_last u 0 (nz (S cWord_last u1 0))) cWord_unordered u 0 (nz (S cWord_unordered u1 0))
theorem t_Word_copyFrom (scr : Nat × (Nat → Int32)) (u : Nat) (u1 : Nat) (S T : St) {o : Option iV × SS} (hG : (none, ((f_Word_copyFrom u u1 S), T)) = o) : E0 scr 1 155 [vR 12 u, vR 12 u1] (S, T) o := by
  refine ev_meth (ls := [some (vR 12 u), some (vR 12 u1)]) rfl rfl rfl ?_
  unfold f_Word_copyFrom at hG
  refine ev_steps 19 (c' := (37, [some (vR 12 u), some (vR 12 u1)], [vI (nz (S cWord_first u1 0)), vR 12 u])) (h' := (up3 (up3 (up3 (up3 S cWord_number u 0 (S cWord_number u1 0)) cWord_value u 0 (S cWord_value u1 0)) cWord_stream u 0 (S cWord_stream u1 0)) cWord_order u 0 (S cWord_order u1 0), T)) rfl ?_
  refine ev_putz rfl rfl rfl (isB_nz _) ?_
  refine ev_steps 3 (c' := (45, [some (vR 12 u), some (vR 12 u1)], [vI (nz (S cWord_last u1 0)), vR 12 u])) (h' := (up3 (up3 (up3 (up3 (up3 S cWord_number u 0 (S cWord_number u1 0)) cWord_value u 0 (S cWord_value u1 0)) cWord_stream u 0 (S cWord_stream u1 0)) cWord_order u 0 (S cWord_order u1 0)) cWord_first u 0 (nz (S cWord_first u1 0)), T)) rfl ?_
  refine ev_putz rfl rfl rfl (isB_nz _) ?_
  refine ev_steps 3 (c' := (53, [some (vR 12 u), some (vR 12 u1)], [vI (nz (S cWord_unordered u1 0)), vR 12 u])) (h' := (up3 (up3 (up3 (up3 (up3 (up3 S cWord_number u 0 (S cWord_number u1 0)) cWord_value u 0 (S cWord_value u1 0)) cWord_stream u 0 (S cWord_stream u1 0)) cWord_order u 0 (S cWord_order u1 0)) cWord_first u 0 (nz (S cWord_first u1 0))) cWord_last u 0 (nz (S cWord_last u1 0)), T)) rfl ?_
  refine ev_putz rfl rfl rfl (isB_nz _) ?_
  refine ev_steps 0 (c' := (56, [some (vR 12 u), some (vR 12 u1)], [])) (h' := (up3 (up3 (up3 (up3 (up3 (up3 (up3 S cWord_number u 0 (S cWord_number u1 0)) cWord_value u 0 (S cWord_value u1 0)) cWord_stream u 0 (S cWord_stream u1 0)) cWord_order u 0 (S cWord_order u1 0)) cWord_first u 0 (nz (S cWord_first u1 0))) cWord_last u 0 (nz (S cWord_last u1 0))) cWord_unordered u 0 (nz (S cWord_unordered u1 0)), T)) rfl ?_
  subst hG
  exact ev_ret rfl rfl
-- Path_startTimer
def f_Path_startTimer (u : Nat) (a1 : Int32) (S : St) : St :=
  up3 (up3 S cPath_timerRuns u 0 (1 : Int32)) cPath_timerDue u 0 (a1 + (S cPath_wait u 0))
theorem t_Path_startTimer (scr : Nat × (Nat → Int32)) (u : Nat) (a1 : Int32) (S T : St) {o : Option iV × SS} (hG : (none, ((f_Path_startTimer u a1 S), T)) = o) : E0 scr 1 137 [vR 7 u, vI a1] (S, T) o := by
  refine ev_meth (ls := [some (vR 7 u), some (vI a1)]) rfl rfl rfl ?_
  unfold f_Path_startTimer at hG
  refine ev_steps 9 (c' := (15, [some (vR 7 u), some (vI a1)], [])) (h' := (up3 (up3 S cPath_timerRuns u 0 (1 : Int32)) cPath_timerDue u 0 (a1 + (S cPath_wait u 0)), T)) rfl ?_
  subst hG
  exact ev_ret rfl rfl
-- End_putOut
def f_End_putOut (u : Nat) (u1 : Nat) (a2 : Int32) (a3 : Int32) (S : St) : Option (St) :=
  bd2 (f_End_post u a2 (4 : Int32) S) (fun r33 S34 => if inb a2 2 = true then if (nz ((f_Word_copyFrom r33 (u1 + 36) S34) cPath_timerRuns (2 * u + ix a2) 0)) = 0 then (if inb a2 2 = true then some (f_Path_startTimer (2 * u + ix a2) a3 (up3 (up3 (up3 (f_Word_copyFrom r33 (u1 + 36) S34) cSentWord_state u1 0 (2 : Int32)) cSentWord_lastPath u1 0 a2) cSentWord_strikes u1 0 (0 : Int32))) else none) else some (up3 (up3 (up3 (f_Word_copyFrom r33 (u1 + 36) S34) cSentWord_state u1 0 (2 : Int32)) cSentWord_lastPath u1 0 a2) cSentWord_strikes u1 0 (0 : Int32)) else none)
theorem t_End_putOut (scr : Nat × (Nat → Int32)) (u : Nat) (u1 : Nat) (a2 : Int32) (a3 : Int32) (S T : St) {x : St} {o : Option iV × SS} (hx : f_End_putOut u u1 a2 a3 S = some x) (hG : (none, (x, T)) = o) : E0 scr 4 105 [vR 3 u, vR 10 u1, vI a2, vI a3] (S, T) o := by
  refine ev_meth (ls := [some (vR 3 u), some (vR 10 u1), some (vI a2), some (vI a3)]) rfl rfl rfl ?_
  unfold f_End_putOut at hx
  refine ev_steps 3 (c' := (3, [some (vR 3 u), some (vR 10 u1), some (vI a2), some (vI a3)], [vI (4 : Int32), vI a2, vR 3 u])) (h' := (S, T)) rfl ?_
  obtain ⟨r33, S34, hc, hx⟩ := bd2_some hx
  refine ev_call rfl rfl rfl rfl rfl rfl rfl rfl rfl ((t_End_post scr u a2 (4 : Int32) S T hc rfl).mono (by decide)) ?_
  refine ev_steps 3 (c' := (13, [some (vR 3 u), some (vR 10 u1), some (vI a2), some (vI a3)], [vR 12 (u1 + 36), vR 12 r33])) (h' := (S34, T)) rfl ?_
  refine ev_call rfl rfl rfl rfl rfl rfl rfl rfl rfl ((t_Word_copyFrom scr r33 (u1 + 36) S34 T rfl).mono (by decide)) ?_
  refine ev_steps 12 (c' := (36, [some (vR 3 u), some (vR 10 u1), some (vI a2), some (vI a3)], [vI a2, vR 67 u])) (h' := (up3 (up3 (up3 (f_Word_copyFrom r33 (u1 + 36) S34) cSentWord_state u1 0 (2 : Int32)) cSentWord_lastPath u1 0 a2) cSentWord_strikes u1 0 (0 : Int32), T)) rfl ?_
  obtain ⟨hg, hx⟩ := ifg hx
  refine ev_aald3 rfl rfl hg ?_
  refine ev_steps 1 (c' := (40, [some (vR 3 u), some (vR 10 u1), some (vI a2), some (vI a3)], [vI (nz ((f_Word_copyFrom r33 (u1 + 36) S34) cPath_timerRuns (2 * u + ix a2) 0))])) (h' := (up3 (up3 (up3 (f_Word_copyFrom r33 (u1 + 36) S34) cSentWord_state u1 0 (2 : Int32)) cSentWord_lastPath u1 0 a2) cSentWord_strikes u1 0 (0 : Int32), T)) rfl ?_
  refine ev_if_ne rfl (fun hc => ?_) (fun hc => ?_)
  · rw [if_pos hc] at hx
    refine ev_steps 3 (c' := (48, [some (vR 3 u), some (vR 10 u1), some (vI a2), some (vI a3)], [vI a2, vR 67 u])) (h' := (up3 (up3 (up3 (f_Word_copyFrom r33 (u1 + 36) S34) cSentWord_state u1 0 (2 : Int32)) cSentWord_lastPath u1 0 a2) cSentWord_strikes u1 0 (0 : Int32), T)) rfl ?_
    obtain ⟨hg, hx⟩ := ifg hx
    refine ev_aald3 rfl rfl hg ?_
    refine ev_steps 1 (c' := (50, [some (vR 3 u), some (vR 10 u1), some (vI a2), some (vI a3)], [vI a3, vR 7 (2 * u + ix a2)])) (h' := (up3 (up3 (up3 (f_Word_copyFrom r33 (u1 + 36) S34) cSentWord_state u1 0 (2 : Int32)) cSentWord_lastPath u1 0 a2) cSentWord_strikes u1 0 (0 : Int32), T)) rfl ?_
    refine ev_call rfl rfl rfl rfl rfl rfl rfl rfl rfl ((t_Path_startTimer scr (2 * u + ix a2) a3 (up3 (up3 (up3 (f_Word_copyFrom r33 (u1 + 36) S34) cSentWord_state u1 0 (2 : Int32)) cSentWord_lastPath u1 0 a2) cSentWord_strikes u1 0 (0 : Int32)) T rfl).mono (by decide)) ?_
    refine ev_steps 0 (c' := (53, [some (vR 3 u), some (vR 10 u1), some (vI a2), some (vI a3)], [])) (h' := ((f_Path_startTimer (2 * u + ix a2) a3 (up3 (up3 (up3 (f_Word_copyFrom r33 (u1 + 36) S34) cSentWord_state u1 0 (2 : Int32)) cSentWord_lastPath u1 0 a2) cSentWord_strikes u1 0 (0 : Int32))), T)) rfl ?_
    cases hx
    subst hG
    exact ev_ret rfl rfl
  · rw [if_neg hc] at hx
    cases hx
    subst hG
    exact ev_ret rfl rfl
-- End_sendWhatItMay
def f_End_sendWhatItMay_2_b (l0 : Nat) (l1 : Int32)  : (Int32 × St) → Option ((Int32 × St) ⊕ (St))
  | (l2, S) => if l2 < (24 : Int32) then (bd (f_Outbox_firstToSend l0 S) (fun r35 => if r35 = (-1 : Int32) then exW (some S) else (bd (f_Outbox_at l0 r35) (fun r37 => bd (f_End_pathFor l0 r37 S) (fun r39 => bd (f_End_mayGo l0 r37 r39 S) (fun r41 => if r41 = 0 then exW (some S) else (bd (f_End_putOut l0 r37 r39 l1 S) (fun S44 => some (Sum.inl (l2 + (1 : Int32), S44)))))))))) else exW (some S)
def f_End_sendWhatItMay_2 (l0 : Nat) (l1 : Int32)  (q : Int32 × St) : Option (St) := iter (f_End_sendWhatItMay_2_b l0 l1) 4096 q
theorem t_End_sendWhatItMay_2_b (scr : Nat × (Nat → Int32)) (l0 : Nat) (l1 : Int32) (l2 : Int32) (S : St) (T : St) (d3 d4 d5 : Option iV) {x : (Int32 × St) ⊕ (St)} {o : Option iV × SS} (hx : f_End_sendWhatItMay_2_b l0 l1 (l2, S) = some x) (hG : (Sum.elim (fun q => ∀ d3 d4 d5 : Option iV, EB scr 4 3 0 cd_End_sendWhatItMay (2, [some (vR 3 l0), some (vI l1), some (vI q.1), d3, d4, d5], []) (q.2, T) o) (fun x => (none, (x, T)) = o)) x) : EB scr 4 3 0 cd_End_sendWhatItMay (2, [some (vR 3 l0), some (vI l1), some (vI l2), d3, d4, d5], []) (S, T) o := by
  unfold f_End_sendWhatItMay_2_b at hx
  dsimp only at hx
  refine ev_steps 2 (c' := (5, [some (vR 3 l0), some (vI l1), some (vI l2), _, _, _], [vI (24 : Int32), vI l2])) (h' := (S, T)) rfl ?_
  refine ev_icmp_ge rfl (fun hc => ?_) (fun hc => ?_)
  · rw [if_pos hc] at hx
    refine ev_steps 2 (c' := (12, [some (vR 3 l0), some (vI l1), some (vI l2), _, _, _], [vR 5 l0])) (h' := (S, T)) rfl ?_
    obtain ⟨r35, hc, hx⟩ := bd_some hx
    refine ev_call rfl rfl rfl rfl rfl rfl rfl rfl rfl ((t_Outbox_firstToSend scr l0 S T hc rfl).mono (by decide)) ?_
    refine ev_steps 3 (c' := (18, [some (vR 3 l0), some (vI l1), some (vI l2), some (vI r35), _, _], [vI (-1 : Int32), vI r35])) (h' := (S, T)) rfl ?_
    refine ev_icmp_ne rfl (fun hc => ?_) (fun hc => ?_)
    · rw [if_pos hc] at hx
      obtain ⟨x, hy, rfl⟩ := exW_some hx
      replace hx := hy
      simp only [Sum.elim_inr] at hG
      cases hx
      subst hG
      exact ev_ret rfl rfl
    · rw [if_neg hc] at hx
      refine ev_steps 3 (c' := (27, [some (vR 3 l0), some (vI l1), some (vI l2), some (vI r35), _, _], [vI r35, vR 5 l0])) (h' := (S, T)) rfl ?_
      obtain ⟨r37, hc, hx⟩ := bd_some hx
      refine ev_call rfl rfl rfl rfl rfl rfl rfl rfl rfl ((t_Outbox_at scr l0 r35 S T hc rfl).mono (by decide)) ?_
      refine ev_steps 3 (c' := (35, [some (vR 3 l0), some (vI l1), some (vI l2), some (vI r35), some (vR 10 r37), _], [vR 10 r37, vR 3 l0])) (h' := (S, T)) rfl ?_
      obtain ⟨r39, hc, hx⟩ := bd_some hx
      refine ev_call rfl rfl rfl rfl rfl rfl rfl rfl rfl ((t_End_pathFor scr l0 r37 S T hc rfl).mono (by decide)) ?_
      refine ev_steps 4 (c' := (45, [some (vR 3 l0), some (vI l1), some (vI l2), some (vI r35), some (vR 10 r37), some (vI r39)], [vI r39, vR 10 r37, vR 3 l0])) (h' := (S, T)) rfl ?_
      obtain ⟨r41, hc, hx⟩ := bd_some hx
      refine ev_call rfl rfl rfl rfl rfl rfl rfl rfl rfl ((t_End_mayGo scr l0 r37 r39 S T hc rfl).mono (by decide)) ?_
      refine ev_steps 0 (c' := (48, [some (vR 3 l0), some (vI l1), some (vI l2), some (vI r35), some (vR 10 r37), some (vI r39)], [vI r41])) (h' := (S, T)) rfl ?_
      refine ev_if_ne rfl (fun hc => ?_) (fun hc => ?_)
      · rw [if_pos hc] at hx
        obtain ⟨x, hy, rfl⟩ := exW_some hx
        replace hx := hy
        simp only [Sum.elim_inr] at hG
        cases hx
        subst hG
        exact ev_ret rfl rfl
      · rw [if_neg hc] at hx
        refine ev_steps 4 (c' := (58, [some (vR 3 l0), some (vI l1), some (vI l2), some (vI r35), some (vR 10 r37), some (vI r39)], [vI l1, vI r39, vR 10 r37, vR 3 l0])) (h' := (S, T)) rfl ?_
        obtain ⟨S44, hc, hx⟩ := bd_some hx
        refine ev_call rfl rfl rfl rfl rfl rfl rfl rfl rfl ((t_End_putOut scr l0 r37 r39 l1 S T hc rfl).mono (by decide)) ?_
        refine ev_steps 2 (c' := (2, [some (vR 3 l0), some (vI l1), some (vI (l2 + (1 : Int32))), some (vI r35), some (vR 10 r37), some (vI r39)], [])) (h' := (S44, T)) rfl ?_
        cases hx
        exact hG _ _ _
  · rw [if_neg hc] at hx
    obtain ⟨x, hy, rfl⟩ := exW_some hx
    replace hx := hy
    simp only [Sum.elim_inr] at hG
    cases hx
    subst hG
    exact ev_ret rfl rfl
theorem t_End_sendWhatItMay_2 (scr : Nat × (Nat → Int32)) (l0 : Nat) (l1 : Int32) (l2 : Int32) (S : St) (T : St) (d3 d4 d5 : Option iV) {x : St} {o : Option iV × SS} (hx : f_End_sendWhatItMay_2 l0 l1 (l2, S) = some x) (hG : (fun x => (none, (x, T)) = o) x) : EB scr 4 3 0 cd_End_sendWhatItMay (2, [some (vR 3 l0), some (vI l1), some (vI l2), d3, d4, d5], []) (S, T) o := by
  exact iter_ind (P := fun q => ∀ d3 d4 d5 : Option iV, EB scr 4 3 0 cd_End_sendWhatItMay (2, [some (vR 3 l0), some (vI l1), some (vI q.1), d3, d4, d5], []) (q.2, T) o) (G := fun x => (none, (x, T)) = o) (fun q x hb hP d3 d4 d5 => t_End_sendWhatItMay_2_b scr l0 l1 q.1 q.2 T d3 d4 d5 hb hP) hx hG d3 d4 d5
def f_End_sendWhatItMay (u : Nat) (a1 : Int32) (S : St) : Option (St) :=
  f_End_sendWhatItMay_2 u a1 ((0 : Int32), S)
theorem t_End_sendWhatItMay (scr : Nat × (Nat → Int32)) (u : Nat) (a1 : Int32) (S T : St) {x : St} {o : Option iV × SS} (hx : f_End_sendWhatItMay u a1 S = some x) (hG : (none, (x, T)) = o) : E0 scr 5 87 [vR 3 u, vI a1] (S, T) o := by
  refine ev_meth (ls := [some (vR 3 u), some (vI a1), none, none, none, none]) rfl rfl rfl ?_
  unfold f_End_sendWhatItMay at hx
  refine ev_steps 2 (c' := (2, [some (vR 3 u), some (vI a1), some (vI (0 : Int32)), none, none, none], [])) (h' := (S, T)) rfl ?_
  exact t_End_sendWhatItMay_2 scr u a1 (0 : Int32) S T _ _ _ hx hG
-- L_send
def f_L_send_26 (S : St) : Option (Int32 × St) :=
  some ((0 : Int32), S)
theorem t_L_send_26 (scr : Nat × (Nat → Int32)) (S : St) (T : St) (d0 d1 d2 d3 d4 d5 d6 : Option iV) {x : Int32 × St} {o : Option iV × SS} (hx : f_L_send_26 S = some x) (hG : (fun x => (some (vI x.1), (x.2, T)) = o) x) : EB scr 5 0 2 cd_L_send (26, [d0, d1, d2, d3, d4, d5, d6], []) (S, T) o := by
  unfold f_L_send_26 at hx
  try dsimp only at hG
  refine ev_steps 1 (c' := (27, [_, _, _, _, _, _, _], [vI (0 : Int32)])) (h' := (S, T)) rfl ?_
  cases hx
  subst hG
  exact ev_ret rfl rfl
def f_L_send_61 (S : St) : Option (Int32 × St) :=
  some ((0 : Int32), S)
theorem t_L_send_61 (scr : Nat × (Nat → Int32)) (S : St) (T : St) (d0 d1 d2 d3 d4 d5 d6 : Option iV) {x : Int32 × St} {o : Option iV × SS} (hx : f_L_send_61 S = some x) (hG : (fun x => (some (vI x.1), (x.2, T)) = o) x) : EB scr 5 0 2 cd_L_send (61, [d0, d1, d2, d3, d4, d5, d6], []) (S, T) o := by
  unfold f_L_send_61 at hx
  try dsimp only at hG
  refine ev_steps 1 (c' := (62, [_, _, _, _, _, _, _], [vI (0 : Int32)])) (h' := (S, T)) rfl ?_
  cases hx
  subst hG
  exact ev_ret rfl rfl
def f_L_send (u : Nat) (a1 : Int32) (a2 : Int32) (a3 : Int32) (a4 : Int32) (a5 : Int32) (S : St) : Option (Int32 × St) :=
  if (f_L_isEnd a1) = 0 then f_L_send_26 S else (if (f_L_isStream a2) = 0 then f_L_send_26 S else (if a5 < (1 : Int32) then f_L_send_26 S else (if (4 : Int32) < a5 then f_L_send_26 S else (if inb a1 2 = true then if (S cEnd_state (ix a1) 0) = (3 : Int32) then (if (24 : Int32) < ((f_Outbox_count (ix a1) S) + a5) then f_L_send_61 S else (bd (f_Outbox_addMessage (ix a1) a2 a3 a4 a5 S) (fun S46 => bd (f_End_sendWhatItMay (ix a1) (S46 cL_now u 0) S46) (fun S48 => some ((1 : Int32), S48))))) else f_L_send_61 S else none))))
theorem t_L_send (scr : Nat × (Nat → Int32)) (u : Nat) (a1 : Int32) (a2 : Int32) (a3 : Int32) (a4 : Int32) (a5 : Int32) (S T : St) {x : Int32 × St} {o : Option iV × SS} (hx : f_L_send u a1 a2 a3 a4 a5 S = some x) (hG : (some (vI x.1), (x.2, T)) = o) : E0 scr 6 3 [vR 0 u, vI a1, vI a2, vI a3, vI a4, vI a5] (S, T) o := by
  refine ev_meth (ls := [some (vR 0 u), some (vI a1), some (vI a2), some (vI a3), some (vI a4), some (vI a5), none]) rfl rfl rfl ?_
  unfold f_L_send at hx
  refine ev_steps 1 (c' := (1, [some (vR 0 u), some (vI a1), some (vI a2), some (vI a3), some (vI a4), some (vI a5), none], [vI a1])) (h' := (S, T)) rfl ?_
  refine ev_call rfl rfl rfl rfl rfl rfl rfl rfl rfl ((t_L_isEnd scr a1 S T rfl).mono (by decide)) ?_
  refine ev_steps 0 (c' := (4, [some (vR 0 u), some (vI a1), some (vI a2), some (vI a3), some (vI a4), some (vI a5), none], [vI (f_L_isEnd a1)])) (h' := (S, T)) rfl ?_
  refine ev_if_eq rfl (fun hc => ?_) (fun hc => ?_)
  · rw [if_pos hc] at hx
    exact t_L_send_26 scr S T _ _ _ _ _ _ _ hx hG
  · rw [if_neg hc] at hx
    refine ev_steps 1 (c' := (8, [some (vR 0 u), some (vI a1), some (vI a2), some (vI a3), some (vI a4), some (vI a5), none], [vI a2])) (h' := (S, T)) rfl ?_
    refine ev_call rfl rfl rfl rfl rfl rfl rfl rfl rfl ((t_L_isStream scr a2 S T rfl).mono (by decide)) ?_
    refine ev_steps 0 (c' := (11, [some (vR 0 u), some (vI a1), some (vI a2), some (vI a3), some (vI a4), some (vI a5), none], [vI (f_L_isStream a2)])) (h' := (S, T)) rfl ?_
    refine ev_if_eq rfl (fun hc => ?_) (fun hc => ?_)
    · rw [if_pos hc] at hx
      exact t_L_send_26 scr S T _ _ _ _ _ _ _ hx hG
    · rw [if_neg hc] at hx
      refine ev_steps 2 (c' := (17, [some (vR 0 u), some (vI a1), some (vI a2), some (vI a3), some (vI a4), some (vI a5), none], [vI (1 : Int32), vI a5])) (h' := (S, T)) rfl ?_
      refine ev_icmp_lt rfl (fun hc => ?_) (fun hc => ?_)
      · rw [if_pos hc] at hx
        exact t_L_send_26 scr S T _ _ _ _ _ _ _ hx hG
      · rw [if_neg hc] at hx
        refine ev_steps 2 (c' := (23, [some (vR 0 u), some (vI a1), some (vI a2), some (vI a3), some (vI a4), some (vI a5), none], [vI (4 : Int32), vI a5])) (h' := (S, T)) rfl ?_
        refine ev_icmp_le rfl (fun hc => ?_) (fun hc => ?_)
        · rw [if_pos hc] at hx
          exact t_L_send_26 scr S T _ _ _ _ _ _ _ hx hG
        · rw [if_neg hc] at hx
          refine ev_steps 3 (c' := (33, [some (vR 0 u), some (vI a1), some (vI a2), some (vI a3), some (vI a4), some (vI a5), none], [vI a1, vR 64 u])) (h' := (S, T)) rfl ?_
          obtain ⟨hg, hx⟩ := ifg hx
          refine ev_aald2 rfl rfl hg ?_
          refine ev_steps 4 (c' := (42, [some (vR 0 u), some (vI a1), some (vI a2), some (vI a3), some (vI a4), some (vI a5), some (vR 3 (ix a1))], [vI (3 : Int32), vI (S cEnd_state (ix a1) 0)])) (h' := (S, T)) rfl ?_
          refine ev_icmp_ne rfl (fun hc => ?_) (fun hc => ?_)
          · rw [if_pos hc] at hx
            refine ev_steps 2 (c' := (50, [some (vR 0 u), some (vI a1), some (vI a2), some (vI a3), some (vI a4), some (vI a5), some (vR 3 (ix a1))], [vR 5 (ix a1)])) (h' := (S, T)) rfl ?_
            refine ev_call rfl rfl rfl rfl rfl rfl rfl rfl rfl ((t_Outbox_count scr (ix a1) S T rfl).mono (by decide)) ?_
            refine ev_steps 3 (c' := (58, [some (vR 0 u), some (vI a1), some (vI a2), some (vI a3), some (vI a4), some (vI a5), some (vR 3 (ix a1))], [vI (24 : Int32), vI ((f_Outbox_count (ix a1) S) + a5)])) (h' := (S, T)) rfl ?_
            refine ev_icmp_le rfl (fun hc => ?_) (fun hc => ?_)
            · rw [if_pos hc] at hx
              exact t_L_send_61 scr S T _ _ _ _ _ _ _ hx hG
            · rw [if_neg hc] at hx
              refine ev_steps 6 (c' := (74, [some (vR 0 u), some (vI a1), some (vI a2), some (vI a3), some (vI a4), some (vI a5), some (vR 3 (ix a1))], [vI a5, vI a4, vI a3, vI a2, vR 5 (ix a1)])) (h' := (S, T)) rfl ?_
              obtain ⟨S46, hc, hx⟩ := bd_some hx
              refine ev_call rfl rfl rfl rfl rfl rfl rfl rfl rfl ((t_Outbox_addMessage scr (ix a1) a2 a3 a4 a5 S T hc rfl).mono (by decide)) ?_
              refine ev_steps 3 (c' := (83, [some (vR 0 u), some (vI a1), some (vI a2), some (vI a3), some (vI a4), some (vI a5), some (vR 3 (ix a1))], [vI (S46 cL_now u 0), vR 3 (ix a1)])) (h' := (S46, T)) rfl ?_
              obtain ⟨S48, hc, hx⟩ := bd_some hx
              refine ev_call rfl rfl rfl rfl rfl rfl rfl rfl rfl ((t_End_sendWhatItMay scr (ix a1) (S46 cL_now u 0) S46 T hc rfl).mono (by decide)) ?_
              refine ev_steps 1 (c' := (87, [some (vR 0 u), some (vI a1), some (vI a2), some (vI a3), some (vI a4), some (vI a5), some (vR 3 (ix a1))], [vI (1 : Int32)])) (h' := (S48, T)) rfl ?_
              cases hx
              subst hG
              exact ev_ret rfl rfl
          · rw [if_neg hc] at hx
            exact t_L_send_61 scr S T _ _ _ _ _ _ _ hx hG
-- L_isPath
def f_L_isPath_13 : Int32 :=
  (0 : Int32)
theorem t_L_isPath_13 (scr : Nat × (Nat → Int32)) (S : St) (T : St) (d0 : Option iV) {o : Option iV × SS} (hG : (fun x => (some (vI x), (S, T)) = o) (f_L_isPath_13)) : EB scr 0 0 2 cd_L_isPath (13, [d0], []) (S, T) o := by
  unfold f_L_isPath_13 at hG
  try dsimp only at hG
  refine ev_steps 1 (c' := (14, [_], [vI (0 : Int32)])) (h' := (S, T)) rfl ?_
  subst hG
  exact ev_ret rfl rfl
def f_L_isPath (a0 : Int32) : Int32 :=
  if a0 < 0 then f_L_isPath_13 else (if a0 < (2 : Int32) then (1 : Int32) else f_L_isPath_13)
theorem t_L_isPath (scr : Nat × (Nat → Int32)) (a0 : Int32) (S T : St) {o : Option iV × SS} (hG : (some (vI (f_L_isPath a0)), (S, T)) = o) : E0 scr 1 18 [vI a0] (S, T) o := by
  refine ev_meth (ls := [some (vI a0)]) rfl rfl rfl ?_
  unfold f_L_isPath at hG
  refine ev_steps 1 (c' := (1, [some (vI a0)], [vI a0])) (h' := (S, T)) rfl ?_
  refine ev_if_lt rfl (fun hc => ?_) (fun hc => ?_)
  · rw [if_pos hc] at hG
    exact t_L_isPath_13 scr S T _ hG
  · rw [if_neg hc] at hG
    refine ev_steps 2 (c' := (6, [some (vI a0)], [vI (2 : Int32), vI a0])) (h' := (S, T)) rfl ?_
    refine ev_icmp_ge rfl (fun hc => ?_) (fun hc => ?_)
    · rw [if_pos hc] at hG
      refine ev_steps 2 (c' := (14, [some (vI a0)], [vI (1 : Int32)])) (h' := (S, T)) rfl ?_
      subst hG
      exact ev_ret rfl rfl
    · rw [if_neg hc] at hG
      exact t_L_isPath_13 scr S T _ hG
-- Row_oldest
def f_Row_oldest (u : Nat) (S : St) : Option (Nat) :=
  if inb (S cRow_start u 0) 8 = true then some (9 * u + ix (S cRow_start u 0)) else none
theorem t_Row_oldest (scr : Nat × (Nat → Int32)) (u : Nat) (S T : St) {x : Nat} {o : Option iV × SS} (hx : f_Row_oldest u S = some x) (hG : (some (vR 6 x), (S, T)) = o) : E0 scr 1 148 [vR 9 u] (S, T) o := by
  refine ev_meth (ls := [some (vR 9 u)]) rfl rfl rfl ?_
  unfold f_Row_oldest at hx
  refine ev_steps 4 (c' := (8, [some (vR 9 u)], [vI (S cRow_start u 0), vR 66 u])) (h' := (S, T)) rfl ?_
  obtain ⟨hg, hx⟩ := ifg hx
  refine ev_aald3 rfl rfl hg ?_
  refine ev_steps 0 (c' := (9, [some (vR 9 u)], [vR 6 (9 * u + ix (S cRow_start u 0))])) (h' := (S, T)) rfl ?_
  cases hx
  subst hG
  exact ev_ret rfl rfl
-- Row_removeOldest
def f_Row_removeOldest (u : Nat) (S : St) : St :=
  if 0 < (S cRow_count u 0) then up3 (up3 S cRow_start u 0 (iRem ((S cRow_start u 0) + (1 : Int32)) (8 : Int32))) cRow_count u 0 ((S cRow_count u 0) - (1 : Int32)) else S
theorem t_Row_removeOldest (scr : Nat × (Nat → Int32)) (u : Nat) (S T : St) {o : Option iV × SS} (hG : (none, ((f_Row_removeOldest u S), T)) = o) : E0 scr 1 149 [vR 9 u] (S, T) o := by
  refine ev_meth (ls := [some (vR 9 u)]) rfl rfl rfl ?_
  unfold f_Row_removeOldest at hG
  refine ev_steps 2 (c' := (4, [some (vR 9 u)], [vI (S cRow_count u 0)])) (h' := (S, T)) rfl ?_
  refine ev_if_le rfl (fun hc => ?_) (fun hc => ?_)
  · rw [if_pos hc] at hG
    refine ev_steps 14 (c' := (30, [some (vR 9 u)], [])) (h' := (up3 (up3 S cRow_start u 0 (iRem ((S cRow_start u 0) + (1 : Int32)) (8 : Int32))) cRow_count u 0 ((S cRow_count u 0) - (1 : Int32)), T)) rfl ?_
    subst hG
    exact ev_ret rfl rfl
  · rw [if_neg hc] at hG
    subst hG
    exact ev_ret rfl rfl
-- L_mixIn
def f_L_mixIn (a0 : Int32) (a1 : Int32) : Int32 :=
  ((a0 ^^^ a1) * (16777619 : Int32)) ^^^ (iUsh ((a0 ^^^ a1) * (16777619 : Int32)) (15 : Int32))
theorem t_L_mixIn (scr : Nat × (Nat → Int32)) (a0 : Int32) (a1 : Int32) (S T : St) {o : Option iV × SS} (hG : (some (vI (f_L_mixIn a0 a1)), (S, T)) = o) : E0 scr 1 21 [vI a0, vI a1] (S, T) o := by
  refine ev_meth (ls := [some (vI a0), some (vI a1), none]) rfl rfl rfl ?_
  unfold f_L_mixIn at hG
  refine ev_steps 11 (c' := (13, [some (vI a0), some (vI a1), some (vI ((a0 ^^^ a1) * (16777619 : Int32)))], [vI (((a0 ^^^ a1) * (16777619 : Int32)) ^^^ (iUsh ((a0 ^^^ a1) * (16777619 : Int32)) (15 : Int32)))])) (h' := (S, T)) rfl ?_
  subst hG
  exact ev_ret rfl rfl
-- L_serverTagFor
def f_L_serverTagFor (u : Nat) (a1 : Int32) (S : St) : Int32 :=
  if a1 = (f_L_mixIn (-2128831035 : Int32) (S cL_key u 0)) then (f_L_mixIn (-2128831035 : Int32) (S cL_key u 0)) else a1 ^^^ (f_L_mixIn (-2128831035 : Int32) (S cL_key u 0))
theorem t_L_serverTagFor (scr : Nat × (Nat → Int32)) (u : Nat) (a1 : Int32) (S T : St) {o : Option iV × SS} (hG : (some (vI (f_L_serverTagFor u a1 S)), (S, T)) = o) : E0 scr 2 22 [vR 0 u, vI a1] (S, T) o := by
  refine ev_meth (ls := [some (vR 0 u), some (vI a1), none]) rfl rfl rfl ?_
  unfold f_L_serverTagFor at hG
  refine ev_steps 3 (c' := (6, [some (vR 0 u), some (vI a1), none], [vI (S cL_key u 0), vI (-2128831035 : Int32)])) (h' := (S, T)) rfl ?_
  refine ev_call rfl rfl rfl rfl rfl rfl rfl rfl rfl ((t_L_mixIn scr (-2128831035 : Int32) (S cL_key u 0) S T rfl).mono (by decide)) ?_
  refine ev_steps 3 (c' := (12, [some (vR 0 u), some (vI a1), some (vI (f_L_mixIn (-2128831035 : Int32) (S cL_key u 0)))], [vI (f_L_mixIn (-2128831035 : Int32) (S cL_key u 0)), vI a1])) (h' := (S, T)) rfl ?_
  refine ev_icmp_ne rfl (fun hc => ?_) (fun hc => ?_)
  · rw [if_pos hc] at hG
    refine ev_steps 2 (c' := (22, [some (vR 0 u), some (vI a1), some (vI (f_L_mixIn (-2128831035 : Int32) (S cL_key u 0)))], [vI (f_L_mixIn (-2128831035 : Int32) (S cL_key u 0))])) (h' := (S, T)) rfl ?_
    subst hG
    exact ev_ret rfl rfl
  · rw [if_neg hc] at hG
    refine ev_steps 3 (c' := (22, [some (vR 0 u), some (vI a1), some (vI (f_L_mixIn (-2128831035 : Int32) (S cL_key u 0)))], [vI (a1 ^^^ (f_L_mixIn (-2128831035 : Int32) (S cL_key u 0)))])) (h' := (S, T)) rfl ?_
    subst hG
    exact ev_ret rfl rfl
-- L_sealOf
def f_L_sealOf (u : Nat) (a1 : Int32) (a2 : Int32) (a3 : Int32) (S : St) : Int32 :=
  (f_L_mixIn (f_L_mixIn (f_L_mixIn (f_L_mixIn (f_L_mixIn (-2128831035 : Int32) (S cL_key u 0)) a1) a2) a3) (7 : Int32))
theorem t_L_sealOf (scr : Nat × (Nat → Int32)) (u : Nat) (a1 : Int32) (a2 : Int32) (a3 : Int32) (S T : St) {o : Option iV × SS} (hG : (some (vI (f_L_sealOf u a1 a2 a3 S)), (S, T)) = o) : E0 scr 2 23 [vR 0 u, vI a1, vI a2, vI a3] (S, T) o := by
  refine ev_meth (ls := [some (vR 0 u), some (vI a1), some (vI a2), some (vI a3), none]) rfl rfl rfl ?_
  unfold f_L_sealOf at hG
  refine ev_steps 3 (c' := (6, [some (vR 0 u), some (vI a1), some (vI a2), some (vI a3), none], [vI (S cL_key u 0), vI (-2128831035 : Int32)])) (h' := (S, T)) rfl ?_
  refine ev_call rfl rfl rfl rfl rfl rfl rfl rfl rfl ((t_L_mixIn scr (-2128831035 : Int32) (S cL_key u 0) S T rfl).mono (by decide)) ?_
  refine ev_steps 3 (c' := (14, [some (vR 0 u), some (vI a1), some (vI a2), some (vI a3), some (vI (f_L_mixIn (-2128831035 : Int32) (S cL_key u 0)))], [vI a1, vI (f_L_mixIn (-2128831035 : Int32) (S cL_key u 0))])) (h' := (S, T)) rfl ?_
  refine ev_call rfl rfl rfl rfl rfl rfl rfl rfl rfl ((t_L_mixIn scr (f_L_mixIn (-2128831035 : Int32) (S cL_key u 0)) a1 S T rfl).mono (by decide)) ?_
  refine ev_steps 3 (c' := (22, [some (vR 0 u), some (vI a1), some (vI a2), some (vI a3), some (vI (f_L_mixIn (f_L_mixIn (-2128831035 : Int32) (S cL_key u 0)) a1))], [vI a2, vI (f_L_mixIn (f_L_mixIn (-2128831035 : Int32) (S cL_key u 0)) a1)])) (h' := (S, T)) rfl ?_
  refine ev_call rfl rfl rfl rfl rfl rfl rfl rfl rfl ((t_L_mixIn scr (f_L_mixIn (f_L_mixIn (-2128831035 : Int32) (S cL_key u 0)) a1) a2 S T rfl).mono (by decide)) ?_
  refine ev_steps 3 (c' := (30, [some (vR 0 u), some (vI a1), some (vI a2), some (vI a3), some (vI (f_L_mixIn (f_L_mixIn (f_L_mixIn (-2128831035 : Int32) (S cL_key u 0)) a1) a2))], [vI a3, vI (f_L_mixIn (f_L_mixIn (f_L_mixIn (-2128831035 : Int32) (S cL_key u 0)) a1) a2)])) (h' := (S, T)) rfl ?_
  refine ev_call rfl rfl rfl rfl rfl rfl rfl rfl rfl ((t_L_mixIn scr (f_L_mixIn (f_L_mixIn (f_L_mixIn (-2128831035 : Int32) (S cL_key u 0)) a1) a2) a3 S T rfl).mono (by decide)) ?_
  refine ev_steps 3 (c' := (39, [some (vR 0 u), some (vI a1), some (vI a2), some (vI a3), some (vI (f_L_mixIn (f_L_mixIn (f_L_mixIn (f_L_mixIn (-2128831035 : Int32) (S cL_key u 0)) a1) a2) a3))], [vI (7 : Int32), vI (f_L_mixIn (f_L_mixIn (f_L_mixIn (f_L_mixIn (-2128831035 : Int32) (S cL_key u 0)) a1) a2) a3)])) (h' := (S, T)) rfl ?_
  refine ev_call rfl rfl rfl rfl rfl rfl rfl rfl rfl ((t_L_mixIn scr (f_L_mixIn (f_L_mixIn (f_L_mixIn (f_L_mixIn (-2128831035 : Int32) (S cL_key u 0)) a1) a2) a3) (7 : Int32) S T rfl).mono (by decide)) ?_
  refine ev_steps 0 (c' := (42, [some (vR 0 u), some (vI a1), some (vI a2), some (vI a3), some (vI (f_L_mixIn (f_L_mixIn (f_L_mixIn (f_L_mixIn (-2128831035 : Int32) (S cL_key u 0)) a1) a2) a3))], [vI (f_L_mixIn (f_L_mixIn (f_L_mixIn (f_L_mixIn (f_L_mixIn (-2128831035 : Int32) (S cL_key u 0)) a1) a2) a3) (7 : Int32))])) (h' := (S, T)) rfl ?_
  subst hG
  exact ev_ret rfl rfl
-- Cookie_set
def f_Cookie_set (u : Nat) (a1 : Int32) (a2 : Int32) (a3 : Int32) (a4 : Int32) (S : St) : St :=
  up3 (up3 (up3 (up3 S cCookie_clientTag u 0 a1) cCookie_serverTag u 0 a2) cCookie_tick u 0 a3) cCookie_seal u 0 a4
theorem t_Cookie_set (scr : Nat × (Nat → Int32)) (u : Nat) (a1 : Int32) (a2 : Int32) (a3 : Int32) (a4 : Int32) (S T : St) {o : Option iV × SS} (hG : (none, ((f_Cookie_set u a1 a2 a3 a4 S), T)) = o) : E0 scr 1 75 [vR 2 u, vI a1, vI a2, vI a3, vI a4] (S, T) o := by
  refine ev_meth (ls := [some (vR 2 u), some (vI a1), some (vI a2), some (vI a3), some (vI a4)]) rfl rfl rfl ?_
  unfold f_Cookie_set at hG
  refine ev_steps 12 (c' := (21, [some (vR 2 u), some (vI a1), some (vI a2), some (vI a3), some (vI a4)], [])) (h' := (up3 (up3 (up3 (up3 S cCookie_clientTag u 0 a1) cCookie_serverTag u 0 a2) cCookie_tick u 0 a3) cCookie_seal u 0 a4, T)) rfl ?_
  subst hG
  exact ev_ret rfl rfl
-- L_answerInit
def f_L_answerInit (u : Nat) (a1 : Int32) (a2 : Int32) (S : St) : Option (St) :=
  if a2 = 0 then some S else (if inb (1 : Int32) 2 = true then bd2 (f_End_post (ix (1 : Int32)) a1 (1 : Int32) S) (fun r49 S50 => some (f_Cookie_set r49 a2 (f_L_serverTagFor u a2 S) (S50 cL_now u 0) (f_L_sealOf u a2 (f_L_serverTagFor u a2 S) (S50 cL_now u 0) (up3 (up3 S50 cPacket_tag r49 0 a2) cPacket_newTag r49 0 (f_L_serverTagFor u a2 S))) (up3 (up3 S50 cPacket_tag r49 0 a2) cPacket_newTag r49 0 (f_L_serverTagFor u a2 S)))) else none)
theorem t_L_answerInit (scr : Nat × (Nat → Int32)) (u : Nat) (a1 : Int32) (a2 : Int32) (S T : St) {x : St} {o : Option iV × SS} (hx : f_L_answerInit u a1 a2 S = some x) (hG : (none, (x, T)) = o) : E0 scr 4 25 [vR 0 u, vI a1, vI a2] (S, T) o := by
  refine ev_meth (ls := [some (vR 0 u), some (vI a1), some (vI a2), none, none]) rfl rfl rfl ?_
  unfold f_L_answerInit at hx
  refine ev_steps 1 (c' := (1, [some (vR 0 u), some (vI a1), some (vI a2), none, none], [vI a2])) (h' := (S, T)) rfl ?_
  refine ev_if_ne rfl (fun hc => ?_) (fun hc => ?_)
  · rw [if_pos hc] at hx
    cases hx
    subst hG
    exact ev_ret rfl rfl
  · rw [if_neg hc] at hx
    refine ev_steps 2 (c' := (7, [some (vR 0 u), some (vI a1), some (vI a2), none, none], [vI a2, vR 0 u])) (h' := (S, T)) rfl ?_
    refine ev_call rfl rfl rfl rfl rfl rfl rfl rfl rfl ((t_L_serverTagFor scr u a2 S T rfl).mono (by decide)) ?_
    refine ev_steps 4 (c' := (16, [some (vR 0 u), some (vI a1), some (vI a2), some (vI (f_L_serverTagFor u a2 S)), none], [vI (1 : Int32), vR 64 u])) (h' := (S, T)) rfl ?_
    obtain ⟨hg, hx⟩ := ifg hx
    refine ev_aald2 rfl rfl hg ?_
    refine ev_steps 2 (c' := (19, [some (vR 0 u), some (vI a1), some (vI a2), some (vI (f_L_serverTagFor u a2 S)), none], [vI (1 : Int32), vI a1, vR 3 (ix (1 : Int32))])) (h' := (S, T)) rfl ?_
    obtain ⟨r49, S50, hc, hx⟩ := bd2_some hx
    refine ev_call rfl rfl rfl rfl rfl rfl rfl rfl rfl ((t_End_post scr (ix (1 : Int32)) a1 (1 : Int32) S T hc rfl).mono (by decide)) ?_
    refine ev_steps 18 (c' := (54, [some (vR 0 u), some (vI a1), some (vI a2), some (vI (f_L_serverTagFor u a2 S)), some (vR 6 r49)], [vI (S50 cL_now u 0), vI (f_L_serverTagFor u a2 S), vI a2, vR 0 u, vI (S50 cL_now u 0), vI (f_L_serverTagFor u a2 S), vI a2, vR 2 r49])) (h' := (up3 (up3 S50 cPacket_tag r49 0 a2) cPacket_newTag r49 0 (f_L_serverTagFor u a2 S), T)) rfl ?_
    refine ev_call rfl rfl rfl rfl rfl rfl rfl rfl rfl ((t_L_sealOf scr u a2 (f_L_serverTagFor u a2 S) (S50 cL_now u 0) (up3 (up3 S50 cPacket_tag r49 0 a2) cPacket_newTag r49 0 (f_L_serverTagFor u a2 S)) T rfl).mono (by decide)) ?_
    refine ev_steps 0 (c' := (57, [some (vR 0 u), some (vI a1), some (vI a2), some (vI (f_L_serverTagFor u a2 S)), some (vR 6 r49)], [vI (f_L_sealOf u a2 (f_L_serverTagFor u a2 S) (S50 cL_now u 0) (up3 (up3 S50 cPacket_tag r49 0 a2) cPacket_newTag r49 0 (f_L_serverTagFor u a2 S))), vI (S50 cL_now u 0), vI (f_L_serverTagFor u a2 S), vI a2, vR 2 r49])) (h' := (up3 (up3 S50 cPacket_tag r49 0 a2) cPacket_newTag r49 0 (f_L_serverTagFor u a2 S), T)) rfl ?_
    refine ev_call rfl rfl rfl rfl rfl rfl rfl rfl rfl ((t_Cookie_set scr r49 a2 (f_L_serverTagFor u a2 S) (S50 cL_now u 0) (f_L_sealOf u a2 (f_L_serverTagFor u a2 S) (S50 cL_now u 0) (up3 (up3 S50 cPacket_tag r49 0 a2) cPacket_newTag r49 0 (f_L_serverTagFor u a2 S))) (up3 (up3 S50 cPacket_tag r49 0 a2) cPacket_newTag r49 0 (f_L_serverTagFor u a2 S)) T rfl).mono (by decide)) ?_
    refine ev_steps 0 (c' := (60, [some (vR 0 u), some (vI a1), some (vI a2), some (vI (f_L_serverTagFor u a2 S)), some (vR 6 r49)], [])) (h' := ((f_Cookie_set r49 a2 (f_L_serverTagFor u a2 S) (S50 cL_now u 0) (f_L_sealOf u a2 (f_L_serverTagFor u a2 S) (S50 cL_now u 0) (up3 (up3 S50 cPacket_tag r49 0 a2) cPacket_newTag r49 0 (f_L_serverTagFor u a2 S))) (up3 (up3 S50 cPacket_tag r49 0 a2) cPacket_newTag r49 0 (f_L_serverTagFor u a2 S))), T)) rfl ?_
    cases hx
    subst hG
    exact ev_ret rfl rfl
-- End_takeInitAck
def f_End_takeInitAck (u : Nat) (a1 : Int32) (u2 : Nat) (a3 : Int32) (S : St) : Option (St) :=
  if (S cEnd_state u 0) = (1 : Int32) then (if (S cPacket_tag u2 0) = (S cEnd_ownTag u 0) then (bd (f_End_postOpening u a1 (f_End_startTries u a3 (up3 (f_Cookie_copyFrom (u + 36) u2 (up3 S cEnd_otherTag u 0 (S cPacket_newTag u2 0))) cEnd_state u 0 (2 : Int32)))) (fun S52 => some S52)) else some S) else some S
theorem t_End_takeInitAck (scr : Nat × (Nat → Int32)) (u : Nat) (a1 : Int32) (u2 : Nat) (a3 : Int32) (S T : St) {x : St} {o : Option iV × SS} (hx : f_End_takeInitAck u a1 u2 a3 S = some x) (hG : (none, (x, T)) = o) : E0 scr 5 83 [vR 3 u, vI a1, vR 6 u2, vI a3] (S, T) o := by
  refine ev_meth (ls := [some (vR 3 u), some (vI a1), some (vR 6 u2), some (vI a3)]) rfl rfl rfl ?_
  unfold f_End_takeInitAck at hx
  refine ev_steps 3 (c' := (5, [some (vR 3 u), some (vI a1), some (vR 6 u2), some (vI a3)], [vI (1 : Int32), vI (S cEnd_state u 0)])) (h' := (S, T)) rfl ?_
  refine ev_icmp_ne rfl (fun hc => ?_) (fun hc => ?_)
  · rw [if_pos hc] at hx
    refine ev_steps 4 (c' := (16, [some (vR 3 u), some (vI a1), some (vR 6 u2), some (vI a3)], [vI (S cEnd_ownTag u 0), vI (S cPacket_tag u2 0)])) (h' := (S, T)) rfl ?_
    refine ev_icmp_eq rfl (fun hc => ?_) (fun hc => ?_)
    · rw [if_pos hc] at hx
      refine ev_steps 8 (c' := (36, [some (vR 3 u), some (vI a1), some (vR 6 u2), some (vI a3)], [vR 2 u2, vR 2 (u + 36)])) (h' := (up3 S cEnd_otherTag u 0 (S cPacket_newTag u2 0), T)) rfl ?_
      refine ev_call rfl rfl rfl rfl rfl rfl rfl rfl rfl ((t_Cookie_copyFrom scr (u + 36) u2 (up3 S cEnd_otherTag u 0 (S cPacket_newTag u2 0)) T rfl).mono (by decide)) ?_
      refine ev_steps 5 (c' := (46, [some (vR 3 u), some (vI a1), some (vR 6 u2), some (vI a3)], [vI a3, vR 3 u])) (h' := (up3 (f_Cookie_copyFrom (u + 36) u2 (up3 S cEnd_otherTag u 0 (S cPacket_newTag u2 0))) cEnd_state u 0 (2 : Int32), T)) rfl ?_
      refine ev_call rfl rfl rfl rfl rfl rfl rfl rfl rfl ((t_End_startTries scr u a3 (up3 (f_Cookie_copyFrom (u + 36) u2 (up3 S cEnd_otherTag u 0 (S cPacket_newTag u2 0))) cEnd_state u 0 (2 : Int32)) T rfl).mono (by decide)) ?_
      refine ev_steps 2 (c' := (51, [some (vR 3 u), some (vI a1), some (vR 6 u2), some (vI a3)], [vI a1, vR 3 u])) (h' := ((f_End_startTries u a3 (up3 (f_Cookie_copyFrom (u + 36) u2 (up3 S cEnd_otherTag u 0 (S cPacket_newTag u2 0))) cEnd_state u 0 (2 : Int32))), T)) rfl ?_
      obtain ⟨S52, hc, hx⟩ := bd_some hx
      refine ev_call rfl rfl rfl rfl rfl rfl rfl rfl rfl ((t_End_postOpening scr u a1 (f_End_startTries u a3 (up3 (f_Cookie_copyFrom (u + 36) u2 (up3 S cEnd_otherTag u 0 (S cPacket_newTag u2 0))) cEnd_state u 0 (2 : Int32))) T hc rfl).mono (by decide)) ?_
      refine ev_steps 0 (c' := (54, [some (vR 3 u), some (vI a1), some (vR 6 u2), some (vI a3)], [])) (h' := (S52, T)) rfl ?_
      cases hx
      subst hG
      exact ev_ret rfl rfl
    · rw [if_neg hc] at hx
      cases hx
      subst hG
      exact ev_ret rfl rfl
  · rw [if_neg hc] at hx
    cases hx
    subst hG
    exact ev_ret rfl rfl
-- L_isGenuine
def f_L_isGenuine_75 (S : St) : Int32 :=
  (0 : Int32)
theorem t_L_isGenuine_75 (scr : Nat × (Nat → Int32)) (S : St) (T : St) (d0 d1 d2 d3 : Option iV) {o : Option iV × SS} (hG : (fun x => (some (vI x), (S, T)) = o) (f_L_isGenuine_75 S)) : EB scr 2 0 2 cd_L_isGenuine (75, [d0, d1, d2, d3], []) (S, T) o := by
  unfold f_L_isGenuine_75 at hG
  try dsimp only at hG
  refine ev_steps 1 (c' := (76, [_, _, _, _], [vI (0 : Int32)])) (h' := (S, T)) rfl ?_
  subst hG
  exact ev_ret rfl rfl
def f_L_isGenuine (u : Nat) (u1 : Nat) (S : St) : Int32 :=
  if (S cCookie_seal u1 0) = (f_L_sealOf u (S cCookie_clientTag u1 0) (S cCookie_serverTag u1 0) (S cCookie_tick u1 0) S) then (if (S cCookie_clientTag u1 0) = 0 then f_L_isGenuine_75 S else (if (S cCookie_serverTag u1 0) = (f_L_serverTagFor u (S cCookie_clientTag u1 0) S) then (if (lg_cmp ((Int32.toInt64 (S cL_now u 0)) - (Int32.toInt64 (S cCookie_tick u1 0))) (Int64.ofNat 0)) < 0 then f_L_isGenuine_75 S else (if 0 < (lg_cmp ((Int32.toInt64 (S cL_now u 0)) - (Int32.toInt64 (S cCookie_tick u1 0))) (Int32.toInt64 (20 : Int32))) then f_L_isGenuine_75 S else (1 : Int32))) else f_L_isGenuine_75 S)) else f_L_isGenuine_75 S
theorem t_L_isGenuine (scr : Nat × (Nat → Int32)) (u : Nat) (u1 : Nat) (S T : St) {o : Option iV × SS} (hG : (some (vI (f_L_isGenuine u u1 S)), (S, T)) = o) : E0 scr 3 27 [vR 0 u, vR 2 u1] (S, T) o := by
  refine ev_meth (ls := [some (vR 0 u), some (vR 2 u1), none, none]) rfl rfl rfl ?_
  unfold f_L_isGenuine at hG
  refine ev_steps 17 (c' := (29, [some (vR 0 u), some (vR 2 u1), some (vL ((Int32.toInt64 (S cL_now u 0)) - (Int32.toInt64 (S cCookie_tick u1 0)))), none], [vI (S cCookie_tick u1 0), vI (S cCookie_serverTag u1 0), vI (S cCookie_clientTag u1 0), vR 0 u, vI (S cCookie_seal u1 0)])) (h' := (S, T)) rfl ?_
  refine ev_call rfl rfl rfl rfl rfl rfl rfl rfl rfl ((t_L_sealOf scr u (S cCookie_clientTag u1 0) (S cCookie_serverTag u1 0) (S cCookie_tick u1 0) S T rfl).mono (by decide)) ?_
  refine ev_steps 0 (c' := (32, [some (vR 0 u), some (vR 2 u1), some (vL ((Int32.toInt64 (S cL_now u 0)) - (Int32.toInt64 (S cCookie_tick u1 0)))), none], [vI (f_L_sealOf u (S cCookie_clientTag u1 0) (S cCookie_serverTag u1 0) (S cCookie_tick u1 0) S), vI (S cCookie_seal u1 0)])) (h' := (S, T)) rfl ?_
  refine ev_icmp_ne rfl (fun hc => ?_) (fun hc => ?_)
  · rw [if_pos hc] at hG
    refine ev_steps 2 (c' := (39, [some (vR 0 u), some (vR 2 u1), some (vL ((Int32.toInt64 (S cL_now u 0)) - (Int32.toInt64 (S cCookie_tick u1 0)))), none], [vI (S cCookie_clientTag u1 0)])) (h' := (S, T)) rfl ?_
    refine ev_if_eq rfl (fun hc => ?_) (fun hc => ?_)
    · rw [if_pos hc] at hG
      exact t_L_isGenuine_75 scr S T _ _ _ _ hG
    · rw [if_neg hc] at hG
      refine ev_steps 5 (c' := (51, [some (vR 0 u), some (vR 2 u1), some (vL ((Int32.toInt64 (S cL_now u 0)) - (Int32.toInt64 (S cCookie_tick u1 0)))), none], [vI (S cCookie_clientTag u1 0), vR 0 u, vI (S cCookie_serverTag u1 0)])) (h' := (S, T)) rfl ?_
      refine ev_call rfl rfl rfl rfl rfl rfl rfl rfl rfl ((t_L_serverTagFor scr u (S cCookie_clientTag u1 0) S T rfl).mono (by decide)) ?_
      refine ev_steps 0 (c' := (54, [some (vR 0 u), some (vR 2 u1), some (vL ((Int32.toInt64 (S cL_now u 0)) - (Int32.toInt64 (S cCookie_tick u1 0)))), none], [vI (f_L_serverTagFor u (S cCookie_clientTag u1 0) S), vI (S cCookie_serverTag u1 0)])) (h' := (S, T)) rfl ?_
      refine ev_icmp_ne rfl (fun hc => ?_) (fun hc => ?_)
      · rw [if_pos hc] at hG
        refine ev_steps 3 (c' := (60, [some (vR 0 u), some (vR 2 u1), some (vL ((Int32.toInt64 (S cL_now u 0)) - (Int32.toInt64 (S cCookie_tick u1 0)))), none], [vI (lg_cmp ((Int32.toInt64 (S cL_now u 0)) - (Int32.toInt64 (S cCookie_tick u1 0))) (Int64.ofNat 0))])) (h' := (S, T)) rfl ?_
        refine ev_if_lt rfl (fun hc => ?_) (fun hc => ?_)
        · rw [if_pos hc] at hG
          exact t_L_isGenuine_75 scr S T _ _ _ _ hG
        · rw [if_neg hc] at hG
          refine ev_steps 3 (c' := (68, [some (vR 0 u), some (vR 2 u1), some (vL ((Int32.toInt64 (S cL_now u 0)) - (Int32.toInt64 (S cCookie_tick u1 0)))), none], [vI (lg_cmp ((Int32.toInt64 (S cL_now u 0)) - (Int32.toInt64 (S cCookie_tick u1 0))) (Int32.toInt64 (20 : Int32)))])) (h' := (S, T)) rfl ?_
          refine ev_if_gt rfl (fun hc => ?_) (fun hc => ?_)
          · rw [if_pos hc] at hG
            exact t_L_isGenuine_75 scr S T _ _ _ _ hG
          · rw [if_neg hc] at hG
            refine ev_steps 2 (c' := (76, [some (vR 0 u), some (vR 2 u1), some (vL ((Int32.toInt64 (S cL_now u 0)) - (Int32.toInt64 (S cCookie_tick u1 0)))), none], [vI (1 : Int32)])) (h' := (S, T)) rfl ?_
            subst hG
            exact ev_ret rfl rfl
      · rw [if_neg hc] at hG
        exact t_L_isGenuine_75 scr S T _ _ _ _ hG
  · rw [if_neg hc] at hG
    exact t_L_isGenuine_75 scr S T _ _ _ _ hG
-- Outbox_reset
def f_Outbox_reset_17_b (l0 : Nat)  : (Int32 × St) → Option ((Int32 × St) ⊕ (St))
  | (l2, S) => if l2 < (3 : Int32) then (if inb l2 3 = true then some (Sum.inl (l2 + (1 : Int32), up3 S cOutbox_nextOrders l0 (ix l2) (0 : Int32))) else none) else exW (some S)
def f_Outbox_reset_17 (l0 : Nat)  (q : Int32 × St) : Option (St) := iter (f_Outbox_reset_17_b l0) 4096 q
theorem t_Outbox_reset_17_b (scr : Nat × (Nat → Int32)) (l0 : Nat) (l2 : Int32) (S : St) (T : St) (d1 : Option iV) {x : (Int32 × St) ⊕ (St)} {o : Option iV × SS} (hx : f_Outbox_reset_17_b l0 (l2, S) = some x) (hG : (Sum.elim (fun q => ∀ d1 : Option iV, EB scr 0 5 0 cd_Outbox_reset (17, [some (vR 5 l0), d1, some (vI q.1)], []) (q.2, T) o) (fun x => (none, (x, T)) = o)) x) : EB scr 0 5 0 cd_Outbox_reset (17, [some (vR 5 l0), d1, some (vI l2)], []) (S, T) o := by
  unfold f_Outbox_reset_17_b at hx
  dsimp only at hx
  refine ev_steps 2 (c' := (19, [some (vR 5 l0), _, some (vI l2)], [vI (3 : Int32), vI l2])) (h' := (S, T)) rfl ?_
  refine ev_icmp_ge rfl (fun hc => ?_) (fun hc => ?_)
  · rw [if_pos hc] at hx
    refine ev_steps 4 (c' := (28, [some (vR 5 l0), _, some (vI l2)], [vI (0 : Int32), vI l2, vR 69 l0])) (h' := (S, T)) rfl ?_
    obtain ⟨hg, hx⟩ := ifg hx
    refine ev_iast rfl rfl hg ?_
    refine ev_steps 2 (c' := (17, [some (vR 5 l0), _, some (vI (l2 + (1 : Int32)))], [])) (h' := (up3 S cOutbox_nextOrders l0 (ix l2) (0 : Int32), T)) rfl ?_
    cases hx
    exact hG _
  · rw [if_neg hc] at hx
    obtain ⟨x, hy, rfl⟩ := exW_some hx
    replace hx := hy
    simp only [Sum.elim_inr] at hG
    cases hx
    subst hG
    exact ev_ret rfl rfl
theorem t_Outbox_reset_17 (scr : Nat × (Nat → Int32)) (l0 : Nat) (l2 : Int32) (S : St) (T : St) (d1 : Option iV) {x : St} {o : Option iV × SS} (hx : f_Outbox_reset_17 l0 (l2, S) = some x) (hG : (fun x => (none, (x, T)) = o) x) : EB scr 0 5 0 cd_Outbox_reset (17, [some (vR 5 l0), d1, some (vI l2)], []) (S, T) o := by
  exact iter_ind (P := fun q => ∀ d1 : Option iV, EB scr 0 5 0 cd_Outbox_reset (17, [some (vR 5 l0), d1, some (vI q.1)], []) (q.2, T) o) (G := fun x => (none, (x, T)) = o) (fun q x hb hP d1 => t_Outbox_reset_17_b scr l0 q.1 q.2 T d1 hb hP) hx hG d1
def f_Outbox_reset (u : Nat) (a1 : Int32) (S : St) : Option (St) :=
  f_Outbox_reset_17 u ((0 : Int32), up3 (up3 (up3 S cOutbox_firstNumber u 0 (1 : Int32)) cOutbox_nextNumber u 0 (1 : Int32)) cOutbox_window u 0 a1)
theorem t_Outbox_reset (scr : Nat × (Nat → Int32)) (u : Nat) (a1 : Int32) (S T : St) {x : St} {o : Option iV × SS} (hx : f_Outbox_reset u a1 S = some x) (hG : (none, (x, T)) = o) : E0 scr 1 123 [vR 5 u, vI a1] (S, T) o := by
  refine ev_meth (ls := [some (vR 5 u), some (vI a1), none]) rfl rfl rfl ?_
  unfold f_Outbox_reset at hx
  refine ev_steps 11 (c' := (17, [some (vR 5 u), some (vI a1), some (vI (0 : Int32))], [])) (h' := (up3 (up3 (up3 S cOutbox_firstNumber u 0 (1 : Int32)) cOutbox_nextNumber u 0 (1 : Int32)) cOutbox_window u 0 a1, T)) rfl ?_
  exact t_Outbox_reset_17 scr u (0 : Int32) (up3 (up3 (up3 S cOutbox_firstNumber u 0 (1 : Int32)) cOutbox_nextNumber u 0 (1 : Int32)) cOutbox_window u 0 a1) T _ hx hG
-- Inbox_reset
def f_Inbox_reset_43_b (l0 : Nat)  : (Int32 × St) → Option ((Int32 × St) ⊕ (St))
  | (l1, S) => if l1 < (3 : Int32) then (if inb l1 3 = true then some (Sum.inl (l1 + (1 : Int32), up3 S cInbox_nextOrders l0 (ix l1) (0 : Int32))) else none) else exW (some S)
def f_Inbox_reset_43 (l0 : Nat)  (q : Int32 × St) : Option (St) := iter (f_Inbox_reset_43_b l0) 4096 q
theorem t_Inbox_reset_43_b (scr : Nat × (Nat → Int32)) (l0 : Nat) (l1 : Int32) (S : St) (T : St) {x : (Int32 × St) ⊕ (St)} {o : Option iV × SS} (hx : f_Inbox_reset_43_b l0 (l1, S) = some x) (hG : (Sum.elim (fun q => EB scr 0 4 0 cd_Inbox_reset (43, [some (vR 4 l0), some (vI q.1)], []) (q.2, T) o) (fun x => (none, (x, T)) = o)) x) : EB scr 0 4 0 cd_Inbox_reset (43, [some (vR 4 l0), some (vI l1)], []) (S, T) o := by
  unfold f_Inbox_reset_43_b at hx
  dsimp only at hx
  refine ev_steps 2 (c' := (45, [some (vR 4 l0), some (vI l1)], [vI (3 : Int32), vI l1])) (h' := (S, T)) rfl ?_
  refine ev_icmp_ge rfl (fun hc => ?_) (fun hc => ?_)
  · rw [if_pos hc] at hx
    refine ev_steps 4 (c' := (54, [some (vR 4 l0), some (vI l1)], [vI (0 : Int32), vI l1, vR 75 l0])) (h' := (S, T)) rfl ?_
    obtain ⟨hg, hx⟩ := ifg hx
    refine ev_iast rfl rfl hg ?_
    refine ev_steps 2 (c' := (43, [some (vR 4 l0), some (vI (l1 + (1 : Int32)))], [])) (h' := (up3 S cInbox_nextOrders l0 (ix l1) (0 : Int32), T)) rfl ?_
    cases hx
    exact hG
  · rw [if_neg hc] at hx
    obtain ⟨x, hy, rfl⟩ := exW_some hx
    replace hx := hy
    simp only [Sum.elim_inr] at hG
    cases hx
    subst hG
    exact ev_ret rfl rfl
theorem t_Inbox_reset_43 (scr : Nat × (Nat → Int32)) (l0 : Nat) (l1 : Int32) (S : St) (T : St) {x : St} {o : Option iV × SS} (hx : f_Inbox_reset_43 l0 (l1, S) = some x) (hG : (fun x => (none, (x, T)) = o) x) : EB scr 0 4 0 cd_Inbox_reset (43, [some (vR 4 l0), some (vI l1)], []) (S, T) o := by
  exact iter_ind (P := fun q => EB scr 0 4 0 cd_Inbox_reset (43, [some (vR 4 l0), some (vI q.1)], []) (q.2, T) o) (G := fun x => (none, (x, T)) = o) (fun q x hb hP  => t_Inbox_reset_43_b scr l0 q.1 q.2 T hb hP) hx hG 
def f_Inbox_reset_12_b (l0 : Nat)  : (Int32 × St) → Option ((Int32 × St) ⊕ (St))
  | (l1, S) => if l1 < (32 : Int32) then (if inb l1 32 = true then if inb l1 32 = true then some (Sum.inl (l1 + (1 : Int32), up3 (up3 S cWord_number (32 * l0 + ix l1 + 84) 0 (0 : Int32)) cInbox_unready l0 (ix l1) (0 : Int32))) else none else none) else exW (f_Inbox_reset_43 l0 ((0 : Int32), S))
def f_Inbox_reset_12 (l0 : Nat)  (q : Int32 × St) : Option (St) := iter (f_Inbox_reset_12_b l0) 4096 q
theorem t_Inbox_reset_12_b (scr : Nat × (Nat → Int32)) (l0 : Nat) (l1 : Int32) (S : St) (T : St) {x : (Int32 × St) ⊕ (St)} {o : Option iV × SS} (hx : f_Inbox_reset_12_b l0 (l1, S) = some x) (hG : (Sum.elim (fun q => EB scr 0 4 0 cd_Inbox_reset (12, [some (vR 4 l0), some (vI q.1)], []) (q.2, T) o) (fun x => (none, (x, T)) = o)) x) : EB scr 0 4 0 cd_Inbox_reset (12, [some (vR 4 l0), some (vI l1)], []) (S, T) o := by
  unfold f_Inbox_reset_12_b at hx
  dsimp only at hx
  refine ev_steps 2 (c' := (15, [some (vR 4 l0), some (vI l1)], [vI (32 : Int32), vI l1])) (h' := (S, T)) rfl ?_
  refine ev_icmp_ge rfl (fun hc => ?_) (fun hc => ?_)
  · rw [if_pos hc] at hx
    refine ev_steps 3 (c' := (23, [some (vR 4 l0), some (vI l1)], [vI l1, vR 73 l0])) (h' := (S, T)) rfl ?_
    obtain ⟨hg, hx⟩ := ifg hx
    refine ev_aald4 rfl rfl hg ?_
    refine ev_steps 6 (c' := (34, [some (vR 4 l0), some (vI l1)], [vI (0 : Int32), vI l1, vR 74 l0])) (h' := (up3 S cWord_number (32 * l0 + ix l1 + 84) 0 (0 : Int32), T)) rfl ?_
    obtain ⟨hg, hx⟩ := ifg hx
    refine ev_bast rfl rfl hg rfl ?_
    refine ev_steps 2 (c' := (12, [some (vR 4 l0), some (vI (l1 + (1 : Int32)))], [])) (h' := (up3 (up3 S cWord_number (32 * l0 + ix l1 + 84) 0 (0 : Int32)) cInbox_unready l0 (ix l1) (0 : Int32), T)) rfl ?_
    cases hx
    exact hG
  · rw [if_neg hc] at hx
    obtain ⟨x, hy, rfl⟩ := exW_some hx
    replace hx := hy
    simp only [Sum.elim_inr] at hG
    refine ev_steps 2 (c' := (43, [some (vR 4 l0), some (vI (0 : Int32))], [])) (h' := (S, T)) rfl ?_
    exact t_Inbox_reset_43 scr l0 (0 : Int32) S T hx hG
theorem t_Inbox_reset_12 (scr : Nat × (Nat → Int32)) (l0 : Nat) (l1 : Int32) (S : St) (T : St) {x : St} {o : Option iV × SS} (hx : f_Inbox_reset_12 l0 (l1, S) = some x) (hG : (fun x => (none, (x, T)) = o) x) : EB scr 0 4 0 cd_Inbox_reset (12, [some (vR 4 l0), some (vI l1)], []) (S, T) o := by
  exact iter_ind (P := fun q => EB scr 0 4 0 cd_Inbox_reset (12, [some (vR 4 l0), some (vI q.1)], []) (q.2, T) o) (G := fun x => (none, (x, T)) = o) (fun q x hb hP  => t_Inbox_reset_12_b scr l0 q.1 q.2 T hb hP) hx hG 
def f_Inbox_reset (u : Nat) (S : St) : Option (St) :=
  f_Inbox_reset_12 u ((0 : Int32), up3 (up3 S cInbox_latest u 0 (0 : Int32)) cInbox_unreadyWords u 0 (0 : Int32))
theorem t_Inbox_reset (scr : Nat × (Nat → Int32)) (u : Nat) (S T : St) {x : St} {o : Option iV × SS} (hx : f_Inbox_reset u S = some x) (hG : (none, (x, T)) = o) : E0 scr 1 110 [vR 4 u] (S, T) o := by
  refine ev_meth (ls := [some (vR 4 u), none]) rfl rfl rfl ?_
  unfold f_Inbox_reset at hx
  refine ev_steps 8 (c' := (12, [some (vR 4 u), some (vI (0 : Int32))], [])) (h' := (up3 (up3 S cInbox_latest u 0 (0 : Int32)) cInbox_unreadyWords u 0 (0 : Int32), T)) rfl ?_
  exact t_Inbox_reset_12 scr u (0 : Int32) (up3 (up3 S cInbox_latest u 0 (0 : Int32)) cInbox_unreadyWords u 0 (0 : Int32)) T hx hG
-- Path_reset
def f_Path_reset (u : Nat) (S : St) : St :=
  up3 (up3 (up3 (up3 (up3 (up3 (up3 (up3 (up3 S cPath_rate u 0 (2 : Int32)) cPath_wait u 0 (3 : Int32)) cPath_errors u 0 (0 : Int32)) cPath_active u 0 (1 : Int32)) cPath_timerRuns u 0 (0 : Int32)) cPath_timerDue u 0 (0 : Int32)) cPath_beatOpen u 0 (0 : Int32)) cPath_beatTick u 0 (0 : Int32)) cPath_good u 0 (0 : Int32)
theorem t_Path_reset (scr : Nat × (Nat → Int32)) (u : Nat) (S T : St) {o : Option iV × SS} (hG : (none, ((f_Path_reset u S), T)) = o) : E0 scr 1 136 [vR 7 u] (S, T) o := by
  refine ev_meth (ls := [some (vR 7 u)]) rfl rfl rfl ?_
  unfold f_Path_reset at hG
  refine ev_steps 27 (c' := (45, [some (vR 7 u)], [])) (h' := (up3 (up3 (up3 (up3 (up3 (up3 (up3 (up3 (up3 S cPath_rate u 0 (2 : Int32)) cPath_wait u 0 (3 : Int32)) cPath_errors u 0 (0 : Int32)) cPath_active u 0 (1 : Int32)) cPath_timerRuns u 0 (0 : Int32)) cPath_timerDue u 0 (0 : Int32)) cPath_beatOpen u 0 (0 : Int32)) cPath_beatTick u 0 (0 : Int32)) cPath_good u 0 (0 : Int32), T)) rfl ?_
  subst hG
  exact ev_ret rfl rfl
-- End_comeUp
def f_End_comeUp_25_b (l0 : Nat)  : (Int32 × St) → Option ((Int32 × St) ⊕ (St))
  | (l1, S) => if l1 < (2 : Int32) then (if inb l1 2 = true then some (Sum.inl (l1 + (1 : Int32), (f_Path_reset (2 * l0 + ix l1) S))) else none) else exW (some (up3 (up3 S cEnd_primaryPath l0 0 (0 : Int32)) cEnd_allErrors l0 0 (0 : Int32)))
def f_End_comeUp_25 (l0 : Nat)  (q : Int32 × St) : Option (St) := iter (f_End_comeUp_25_b l0) 4096 q
theorem t_End_comeUp_25_b (scr : Nat × (Nat → Int32)) (l0 : Nat) (l1 : Int32) (S : St) (T : St) {x : (Int32 × St) ⊕ (St)} {o : Option iV × SS} (hx : f_End_comeUp_25_b l0 (l1, S) = some x) (hG : (Sum.elim (fun q => EB scr 1 3 0 cd_End_comeUp (25, [some (vR 3 l0), some (vI q.1)], []) (q.2, T) o) (fun x => (none, (x, T)) = o)) x) : EB scr 1 3 0 cd_End_comeUp (25, [some (vR 3 l0), some (vI l1)], []) (S, T) o := by
  unfold f_End_comeUp_25_b at hx
  dsimp only at hx
  refine ev_steps 2 (c' := (27, [some (vR 3 l0), some (vI l1)], [vI (2 : Int32), vI l1])) (h' := (S, T)) rfl ?_
  refine ev_icmp_ge rfl (fun hc => ?_) (fun hc => ?_)
  · rw [if_pos hc] at hx
    refine ev_steps 3 (c' := (35, [some (vR 3 l0), some (vI l1)], [vI l1, vR 67 l0])) (h' := (S, T)) rfl ?_
    obtain ⟨hg, hx⟩ := ifg hx
    refine ev_aald3 rfl rfl hg ?_
    refine ev_steps 0 (c' := (36, [some (vR 3 l0), some (vI l1)], [vR 7 (2 * l0 + ix l1)])) (h' := (S, T)) rfl ?_
    refine ev_call rfl rfl rfl rfl rfl rfl rfl rfl rfl ((t_Path_reset scr (2 * l0 + ix l1) S T rfl).mono (by decide)) ?_
    refine ev_steps 2 (c' := (25, [some (vR 3 l0), some (vI (l1 + (1 : Int32)))], [])) (h' := ((f_Path_reset (2 * l0 + ix l1) S), T)) rfl ?_
    cases hx
    exact hG
  · rw [if_neg hc] at hx
    obtain ⟨x, hy, rfl⟩ := exW_some hx
    replace hx := hy
    simp only [Sum.elim_inr] at hG
    refine ev_steps 6 (c' := (55, [some (vR 3 l0), some (vI l1)], [])) (h' := (up3 (up3 S cEnd_primaryPath l0 0 (0 : Int32)) cEnd_allErrors l0 0 (0 : Int32), T)) rfl ?_
    cases hx
    subst hG
    exact ev_ret rfl rfl
theorem t_End_comeUp_25 (scr : Nat × (Nat → Int32)) (l0 : Nat) (l1 : Int32) (S : St) (T : St) {x : St} {o : Option iV × SS} (hx : f_End_comeUp_25 l0 (l1, S) = some x) (hG : (fun x => (none, (x, T)) = o) x) : EB scr 1 3 0 cd_End_comeUp (25, [some (vR 3 l0), some (vI l1)], []) (S, T) o := by
  exact iter_ind (P := fun q => EB scr 1 3 0 cd_End_comeUp (25, [some (vR 3 l0), some (vI q.1)], []) (q.2, T) o) (G := fun x => (none, (x, T)) = o) (fun q x hb hP  => t_End_comeUp_25_b scr l0 q.1 q.2 T hb hP) hx hG 
def f_End_comeUp (u : Nat) (S : St) : Option (St) :=
  bd (f_Outbox_reset u (S cEnd_room u 0) (up3 S cEnd_state u 0 (3 : Int32))) (fun S54 => bd (f_Inbox_reset u S54) (fun S56 => f_End_comeUp_25 u ((0 : Int32), S56)))
theorem t_End_comeUp (scr : Nat × (Nat → Int32)) (u : Nat) (S T : St) {x : St} {o : Option iV × SS} (hx : f_End_comeUp u S = some x) (hG : (none, (x, T)) = o) : E0 scr 2 79 [vR 3 u] (S, T) o := by
  refine ev_meth (ls := [some (vR 3 u), none]) rfl rfl rfl ?_
  unfold f_End_comeUp at hx
  refine ev_steps 7 (c' := (13, [some (vR 3 u), none], [vI (S cEnd_room u 0), vR 5 u])) (h' := (up3 S cEnd_state u 0 (3 : Int32), T)) rfl ?_
  obtain ⟨S54, hc, hx⟩ := bd_some hx
  refine ev_call rfl rfl rfl rfl rfl rfl rfl rfl rfl ((t_Outbox_reset scr u (S cEnd_room u 0) (up3 S cEnd_state u 0 (3 : Int32)) T hc rfl).mono (by decide)) ?_
  refine ev_steps 2 (c' := (20, [some (vR 3 u), none], [vR 4 u])) (h' := (S54, T)) rfl ?_
  obtain ⟨S56, hc, hx⟩ := bd_some hx
  refine ev_call rfl rfl rfl rfl rfl rfl rfl rfl rfl ((t_Inbox_reset scr u S54 T hc rfl).mono (by decide)) ?_
  refine ev_steps 2 (c' := (25, [some (vR 3 u), some (vI (0 : Int32))], [])) (h' := (S56, T)) rfl ?_
  exact t_End_comeUp_25 scr u (0 : Int32) S56 T hx hG
