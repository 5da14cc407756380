/-! Methods as functions on the store, printed by a program. -/
-- End_passPathTick
def f_End_passPathTick_72 (l0 : Nat) (l1 : Int32) (l2 : Int32) (S : St) : Option (St) :=
  if (S cEnd_state l0 0) = (3 : Int32) then (bd (f_End_postBeat l0 l1 l2 S) (fun S172 => some S172)) else some S
theorem t_End_passPathTick_72 (scr : Nat × (Nat → Int32)) (l0 : Nat) (l1 : Int32) (l2 : Int32) (S : St) (T : St) (d3 : Option iV) {x : St} {o : Option iV × SS} (hx : f_End_passPathTick_72 l0 l1 l2 S = some x) (hG : (fun x => (none, (x, T)) = o) x) : EB scr 5 3 0 cd_End_passPathTick (72, [some (vR 3 l0), some (vI l1), some (vI l2), d3], []) (S, T) o := by
  unfold f_End_passPathTick_72 at hx
  try dsimp only at hG
  refine ev_steps 3 (c' := (77, [some (vR 3 l0), some (vI l1), some (vI l2), _], [vI (3 : Int32), vI (S cEnd_state l0 0)])) (h' := (S, T)) rfl ?_
  refine ev_icmp_ne rfl (fun hc => ?_) (fun hc => ?_)
  · rw [if_pos hc] at hx
    refine ev_steps 3 (c' := (83, [some (vR 3 l0), some (vI l1), some (vI l2), _], [vI l2, vI l1, vR 3 l0])) (h' := (S, T)) rfl ?_
    obtain ⟨S172, hc, hx⟩ := bd_some hx
    refine ev_call rfl rfl rfl rfl rfl rfl rfl rfl rfl ((t_End_postBeat scr l0 l1 l2 S T hc rfl).mono (by decide)) ?_
    refine ev_steps 0 (c' := (86, [some (vR 3 l0), some (vI l1), some (vI l2), _], [])) (h' := (S172, T)) rfl ?_
    cases hx
    subst hG
    exact ev_ret rfl rfl
  · rw [if_neg hc] at hx
    cases hx
    subst hG
    exact ev_ret rfl rfl
def f_End_passPathTick_42 (l0 : Nat) (l1 : Int32) (l2 : Int32) (l3 : Nat) (S : St) : Option (St) :=
  if (iRem l2 (8 : Int32)) = 0 then (bd (f_Outbox_countOut l0 l1 S) (fun r169 => if r169 = 0 then (if (nz (S cPath_beatOpen l3 0)) = 0 then f_End_passPathTick_72 l0 l1 l2 S else (bd (f_End_addError l0 l3 S) (fun S174 => f_End_passPathTick_72 l0 l1 l2 S174))) else some S)) else some S
theorem t_End_passPathTick_42 (scr : Nat × (Nat → Int32)) (l0 : Nat) (l1 : Int32) (l2 : Int32) (l3 : Nat) (S : St) (T : St) {x : St} {o : Option iV × SS} (hx : f_End_passPathTick_42 l0 l1 l2 l3 S = some x) (hG : (fun x => (none, (x, T)) = o) x) : EB scr 5 3 0 cd_End_passPathTick (42, [some (vR 3 l0), some (vI l1), some (vI l2), some (vR 7 l3)], []) (S, T) o := by
  unfold f_End_passPathTick_42 at hx
  try dsimp only at hG
  refine ev_steps 3 (c' := (46, [some (vR 3 l0), some (vI l1), some (vI l2), some (vR 7 l3)], [vI (iRem l2 (8 : Int32))])) (h' := (S, T)) rfl ?_
  refine ev_if_ne rfl (fun hc => ?_) (fun hc => ?_)
  · rw [if_pos hc] at hx
    refine ev_steps 3 (c' := (54, [some (vR 3 l0), some (vI l1), some (vI l2), some (vR 7 l3)], [vI l1, vR 5 l0])) (h' := (S, T)) rfl ?_
    obtain ⟨r169, hc, hx⟩ := bd_some hx
    refine ev_call rfl rfl rfl rfl rfl rfl rfl rfl rfl ((t_Outbox_countOut scr l0 l1 S T hc rfl).mono (by decide)) ?_
    refine ev_steps 0 (c' := (57, [some (vR 3 l0), some (vI l1), some (vI l2), some (vR 7 l3)], [vI r169])) (h' := (S, T)) rfl ?_
    refine ev_if_ne rfl (fun hc => ?_) (fun hc => ?_)
    · rw [if_pos hc] at hx
      refine ev_steps 2 (c' := (64, [some (vR 3 l0), some (vI l1), some (vI l2), some (vR 7 l3)], [vI (nz (S cPath_beatOpen l3 0))])) (h' := (S, T)) rfl ?_
      refine ev_if_eq rfl (fun hc => ?_) (fun hc => ?_)
      · rw [if_pos hc] at hx
        exact t_End_passPathTick_72 scr l0 l1 l2 S T _ hx hG
      · rw [if_neg hc] at hx
        refine ev_steps 2 (c' := (69, [some (vR 3 l0), some (vI l1), some (vI l2), some (vR 7 l3)], [vR 7 l3, vR 3 l0])) (h' := (S, T)) rfl ?_
        obtain ⟨S174, hc, hx⟩ := bd_some hx
        refine ev_call rfl rfl rfl rfl rfl rfl rfl rfl rfl ((t_End_addError scr l0 l3 S T hc rfl).mono (by decide)) ?_
        refine ev_steps 0 (c' := (72, [some (vR 3 l0), some (vI l1), some (vI l2), some (vR 7 l3)], [])) (h' := (S174, T)) rfl ?_
        exact t_End_passPathTick_72 scr l0 l1 l2 S174 T _ hx hG
    · rw [if_neg hc] at hx
      cases hx
      subst hG
      exact ev_ret rfl rfl
  · rw [if_neg hc] at hx
    cases hx
    subst hG
    exact ev_ret rfl rfl
def f_End_passPathTick (u : Nat) (a1 : Int32) (a2 : Int32) (S : St) : Option (St) :=
  if inb a1 2 = true then if (nz (S cPath_timerRuns (2 * u + ix a1) 0)) = 0 then f_End_passPathTick_42 u a1 a2 (2 * u + ix a1) S else (if a2 < (S cPath_timerDue (2 * u + ix a1) 0) then f_End_passPathTick_42 u a1 a2 (2 * u + ix a1) S else (bd (f_Outbox_markAllOut u a1 S) (fun S176 => bd (f_End_addError u (2 * u + ix a1) (f_Path_slowDown (2 * u + ix a1) S176)) (fun S178 => some S178)))) else none
theorem t_End_passPathTick (scr : Nat × (Nat → Int32)) (u : Nat) (a1 : Int32) (a2 : Int32) (S T : St) {x : St} {o : Option iV × SS} (hx : f_End_passPathTick u a1 a2 S = some x) (hG : (none, (x, T)) = o) : E0 scr 6 106 [vR 3 u, vI a1, vI a2] (S, T) o := by
  refine ev_meth (ls := [some (vR 3 u), some (vI a1), some (vI a2), none]) rfl rfl rfl ?_
  unfold f_End_passPathTick at hx
  refine ev_steps 3 (c' := (5, [some (vR 3 u), some (vI a1), some (vI a2), none], [vI a1, vR 67 u])) (h' := (S, T)) rfl ?_
  obtain ⟨hg, hx⟩ := ifg hx
  refine ev_aald3 rfl rfl hg ?_
  refine ev_steps 3 (c' := (11, [some (vR 3 u), some (vI a1), some (vI a2), some (vR 7 (2 * u + ix a1))], [vI (nz (S cPath_timerRuns (2 * u + ix a1) 0))])) (h' := (S, T)) rfl ?_
  refine ev_if_eq rfl (fun hc => ?_) (fun hc => ?_)
  · rw [if_pos hc] at hx
    exact t_End_passPathTick_42 scr u a1 a2 (2 * u + ix a1) S T hx hG
  · rw [if_neg hc] at hx
    refine ev_steps 3 (c' := (19, [some (vR 3 u), some (vI a1), some (vI a2), some (vR 7 (2 * u + ix a1))], [vI (S cPath_timerDue (2 * u + ix a1) 0), vI a2])) (h' := (S, T)) rfl ?_
    refine ev_icmp_lt rfl (fun hc => ?_) (fun hc => ?_)
    · rw [if_pos hc] at hx
      exact t_End_passPathTick_42 scr u a1 a2 (2 * u + ix a1) S T hx hG
    · rw [if_neg hc] at hx
      refine ev_steps 3 (c' := (27, [some (vR 3 u), some (vI a1), some (vI a2), some (vR 7 (2 * u + ix a1))], [vI a1, vR 5 u])) (h' := (S, T)) rfl ?_
      obtain ⟨S176, hc, hx⟩ := bd_some hx
      refine ev_call rfl rfl rfl rfl rfl rfl rfl rfl rfl ((t_Outbox_markAllOut scr u a1 S T hc rfl).mono (by decide)) ?_
      refine ev_steps 1 (c' := (31, [some (vR 3 u), some (vI a1), some (vI a2), some (vR 7 (2 * u + ix a1))], [vR 7 (2 * u + ix a1)])) (h' := (S176, T)) rfl ?_
      refine ev_call rfl rfl rfl rfl rfl rfl rfl rfl rfl ((t_Path_slowDown scr (2 * u + ix a1) S176 T rfl).mono (by decide)) ?_
      refine ev_steps 2 (c' := (36, [some (vR 3 u), some (vI a1), some (vI a2), some (vR 7 (2 * u + ix a1))], [vR 7 (2 * u + ix a1), vR 3 u])) (h' := ((f_Path_slowDown (2 * u + ix a1) S176), T)) rfl ?_
      obtain ⟨S178, hc, hx⟩ := bd_some hx
      refine ev_call rfl rfl rfl rfl rfl rfl rfl rfl rfl ((t_End_addError scr u (2 * u + ix a1) (f_Path_slowDown (2 * u + ix a1) S176) T hc rfl).mono (by decide)) ?_
      refine ev_steps 1 (c' := (86, [some (vR 3 u), some (vI a1), some (vI a2), some (vR 7 (2 * u + ix a1))], [])) (h' := (S178, T)) rfl ?_
      cases hx
      subst hG
      exact ev_ret rfl rfl
-- End_passTick
def f_End_passTick_56 (l0 : Nat) (l1 : Int32) (S : St) : Option (St) :=
  if (S cEnd_state l0 0) = (3 : Int32) then (bd (f_End_sendWhatItMay l0 l1 S) (fun S180 => some S180)) else some S
theorem t_End_passTick_56 (scr : Nat × (Nat → Int32)) (l0 : Nat) (l1 : Int32) (S : St) (T : St) (d2 : Option iV) {x : St} {o : Option iV × SS} (hx : f_End_passTick_56 l0 l1 S = some x) (hG : (fun x => (none, (x, T)) = o) x) : EB scr 6 3 0 cd_End_passTick (56, [some (vR 3 l0), some (vI l1), d2], []) (S, T) o := by
  unfold f_End_passTick_56 at hx
  try dsimp only at hG
  refine ev_steps 3 (c' := (61, [some (vR 3 l0), some (vI l1), _], [vI (3 : Int32), vI (S cEnd_state l0 0)])) (h' := (S, T)) rfl ?_
  refine ev_icmp_ne rfl (fun hc => ?_) (fun hc => ?_)
  · rw [if_pos hc] at hx
    refine ev_steps 2 (c' := (66, [some (vR 3 l0), some (vI l1), _], [vI l1, vR 3 l0])) (h' := (S, T)) rfl ?_
    obtain ⟨S180, hc, hx⟩ := bd_some hx
    refine ev_call rfl rfl rfl rfl rfl rfl rfl rfl rfl ((t_End_sendWhatItMay scr l0 l1 S T hc rfl).mono (by decide)) ?_
    refine ev_steps 0 (c' := (69, [some (vR 3 l0), some (vI l1), _], [])) (h' := (S180, T)) rfl ?_
    cases hx
    subst hG
    exact ev_ret rfl rfl
  · rw [if_neg hc] at hx
    cases hx
    subst hG
    exact ev_ret rfl rfl
def f_End_passTick_31_b (l0 : Nat) (l1 : Int32)  : (Int32 × St) → Option ((Int32 × St) ⊕ (St))
  | (l2, S) => if l2 < (2 : Int32) then (if (S cEnd_state l0 0) = (3 : Int32) then (bd (f_End_passPathTick l0 l2 l1 S) (fun S182 => some (Sum.inl (l2 + (1 : Int32), S182)))) else exW (f_End_passTick_56 l0 l1 S)) else exW (f_End_passTick_56 l0 l1 S)
def f_End_passTick_31 (l0 : Nat) (l1 : Int32)  (q : Int32 × St) : Option (St) := iter (f_End_passTick_31_b l0 l1) 4096 q
theorem t_End_passTick_31_b (scr : Nat × (Nat → Int32)) (l0 : Nat) (l1 : Int32) (l2 : Int32) (S : St) (T : St) {x : (Int32 × St) ⊕ (St)} {o : Option iV × SS} (hx : f_End_passTick_31_b l0 l1 (l2, S) = some x) (hG : (Sum.elim (fun q => EB scr 6 3 0 cd_End_passTick (31, [some (vR 3 l0), some (vI l1), some (vI q.1)], []) (q.2, T) o) (fun x => (none, (x, T)) = o)) x) : EB scr 6 3 0 cd_End_passTick (31, [some (vR 3 l0), some (vI l1), some (vI l2)], []) (S, T) o := by
  unfold f_End_passTick_31_b at hx
  dsimp only at hx
  refine ev_steps 2 (c' := (33, [some (vR 3 l0), some (vI l1), some (vI l2)], [vI (2 : Int32), vI l2])) (h' := (S, T)) rfl ?_
  refine ev_icmp_ge rfl (fun hc => ?_) (fun hc => ?_)
  · rw [if_pos hc] at hx
    refine ev_steps 3 (c' := (41, [some (vR 3 l0), some (vI l1), some (vI l2)], [vI (3 : Int32), vI (S cEnd_state l0 0)])) (h' := (S, T)) rfl ?_
    refine ev_icmp_ne rfl (fun hc => ?_) (fun hc => ?_)
    · rw [if_pos hc] at hx
      refine ev_steps 3 (c' := (47, [some (vR 3 l0), some (vI l1), some (vI l2)], [vI l1, vI l2, vR 3 l0])) (h' := (S, T)) rfl ?_
      obtain ⟨S182, hc, hx⟩ := bd_some hx
      refine ev_call rfl rfl rfl rfl rfl rfl rfl rfl rfl ((t_End_passPathTick scr l0 l2 l1 S T hc rfl).mono (by decide)) ?_
      refine ev_steps 2 (c' := (31, [some (vR 3 l0), some (vI l1), some (vI (l2 + (1 : Int32)))], [])) (h' := (S182, T)) rfl ?_
      cases hx
      exact hG
    · rw [if_neg hc] at hx
      obtain ⟨x, hy, rfl⟩ := exW_some hx
      replace hx := hy
      simp only [Sum.elim_inr] at hG
      exact t_End_passTick_56 scr l0 l1 S T _ hx hG
  · rw [if_neg hc] at hx
    obtain ⟨x, hy, rfl⟩ := exW_some hx
    replace hx := hy
    simp only [Sum.elim_inr] at hG
    exact t_End_passTick_56 scr l0 l1 S T _ hx hG
theorem t_End_passTick_31 (scr : Nat × (Nat → Int32)) (l0 : Nat) (l1 : Int32) (l2 : Int32) (S : St) (T : St) {x : St} {o : Option iV × SS} (hx : f_End_passTick_31 l0 l1 (l2, S) = some x) (hG : (fun x => (none, (x, T)) = o) x) : EB scr 6 3 0 cd_End_passTick (31, [some (vR 3 l0), some (vI l1), some (vI l2)], []) (S, T) o := by
  exact iter_ind (P := fun q => EB scr 6 3 0 cd_End_passTick (31, [some (vR 3 l0), some (vI l1), some (vI q.1)], []) (q.2, T) o) (G := fun x => (none, (x, T)) = o) (fun q x hb hP  => t_End_passTick_31_b scr l0 l1 q.1 q.2 T hb hP) hx hG 
def f_End_passTick_29 (l0 : Nat) (l1 : Int32) (S : St) : Option (St) :=
  f_End_passTick_31 l0 l1 ((0 : Int32), S)
theorem t_End_passTick_29 (scr : Nat × (Nat → Int32)) (l0 : Nat) (l1 : Int32) (S : St) (T : St) (d2 : Option iV) {x : St} {o : Option iV × SS} (hx : f_End_passTick_29 l0 l1 S = some x) (hG : (fun x => (none, (x, T)) = o) x) : EB scr 6 3 0 cd_End_passTick (29, [some (vR 3 l0), some (vI l1), d2], []) (S, T) o := by
  unfold f_End_passTick_29 at hx
  try dsimp only at hG
  refine ev_steps 2 (c' := (31, [some (vR 3 l0), some (vI l1), some (vI (0 : Int32))], [])) (h' := (S, T)) rfl ?_
  exact t_End_passTick_31 scr l0 l1 (0 : Int32) S T hx hG
def f_End_passTick_16 (l0 : Nat) (l1 : Int32) (S : St) : Option (St) :=
  if l1 < (S cEnd_tryDue l0 0) then f_End_passTick_29 l0 l1 S else (bd (f_End_tryAgain l0 l1 S) (fun S184 => f_End_passTick_29 l0 l1 S184))
theorem t_End_passTick_16 (scr : Nat × (Nat → Int32)) (l0 : Nat) (l1 : Int32) (S : St) (T : St) (d2 : Option iV) {x : St} {o : Option iV × SS} (hx : f_End_passTick_16 l0 l1 S = some x) (hG : (fun x => (none, (x, T)) = o) x) : EB scr 6 3 0 cd_End_passTick (16, [some (vR 3 l0), some (vI l1), d2], []) (S, T) o := by
  unfold f_End_passTick_16 at hx
  try dsimp only at hG
  refine ev_steps 3 (c' := (21, [some (vR 3 l0), some (vI l1), _], [vI (S cEnd_tryDue l0 0), vI l1])) (h' := (S, T)) rfl ?_
  refine ev_icmp_lt rfl (fun hc => ?_) (fun hc => ?_)
  · rw [if_pos hc] at hx
    exact t_End_passTick_29 scr l0 l1 S T _ hx hG
  · rw [if_neg hc] at hx
    refine ev_steps 2 (c' := (26, [some (vR 3 l0), some (vI l1), _], [vI l1, vR 3 l0])) (h' := (S, T)) rfl ?_
    obtain ⟨S184, hc, hx⟩ := bd_some hx
    refine ev_call rfl rfl rfl rfl rfl rfl rfl rfl rfl ((t_End_tryAgain scr l0 l1 S T hc rfl).mono (by decide)) ?_
    refine ev_steps 0 (c' := (29, [some (vR 3 l0), some (vI l1), _], [])) (h' := (S184, T)) rfl ?_
    exact t_End_passTick_29 scr l0 l1 S184 T _ hx hG
def f_End_passTick (u : Nat) (a1 : Int32) (S : St) : Option (St) :=
  if (S cEnd_state u 0) = (1 : Int32) then f_End_passTick_16 u a1 S else (if (S cEnd_state u 0) = (2 : Int32) then f_End_passTick_16 u a1 S else f_End_passTick_29 u a1 S)
theorem t_End_passTick (scr : Nat × (Nat → Int32)) (u : Nat) (a1 : Int32) (S T : St) {x : St} {o : Option iV × SS} (hx : f_End_passTick u a1 S = some x) (hG : (none, (x, T)) = o) : E0 scr 7 86 [vR 3 u, vI a1] (S, T) o := by
  refine ev_meth (ls := [some (vR 3 u), some (vI a1), none]) rfl rfl rfl ?_
  unfold f_End_passTick at hx
  refine ev_steps 3 (c' := (5, [some (vR 3 u), some (vI a1), none], [vI (1 : Int32), vI (S cEnd_state u 0)])) (h' := (S, T)) rfl ?_
  refine ev_icmp_eq rfl (fun hc => ?_) (fun hc => ?_)
  · rw [if_pos hc] at hx
    exact t_End_passTick_16 scr u a1 S T _ hx hG
  · rw [if_neg hc] at hx
    refine ev_steps 3 (c' := (13, [some (vR 3 u), some (vI a1), none], [vI (2 : Int32), vI (S cEnd_state u 0)])) (h' := (S, T)) rfl ?_
    refine ev_icmp_ne rfl (fun hc => ?_) (fun hc => ?_)
    · rw [if_pos hc] at hx
      exact t_End_passTick_16 scr u a1 S T _ hx hG
    · rw [if_neg hc] at hx
      exact t_End_passTick_29 scr u a1 S T _ hx hG
-- L_tick
def f_L_tick_12_b (l0 : Nat)  : (Int32 × St) → Option ((Int32 × St) ⊕ (Int32 × St))
  | (l1, S) => if l1 < (2 : Int32) then (if inb l1 2 = true then bd (f_End_passTick (ix l1) (S cL_now l0 0) S) (fun S186 => some (Sum.inl (l1 + (1 : Int32), S186))) else none) else exW (some (S cL_now l0 0, S))
def f_L_tick_12 (l0 : Nat)  (q : Int32 × St) : Option (Int32 × St) := iter (f_L_tick_12_b l0) 4096 q
theorem t_L_tick_12_b (scr : Nat × (Nat → Int32)) (l0 : Nat) (l1 : Int32) (S : St) (T : St) {x : (Int32 × St) ⊕ (Int32 × St)} {o : Option iV × SS} (hx : f_L_tick_12_b l0 (l1, S) = some x) (hG : (Sum.elim (fun q => EB scr 7 0 1 cd_L_tick (12, [some (vR 0 l0), some (vI q.1)], []) (q.2, T) o) (fun x => (some (vI x.1), (x.2, T)) = o)) x) : EB scr 7 0 1 cd_L_tick (12, [some (vR 0 l0), some (vI l1)], []) (S, T) o := by
  unfold f_L_tick_12_b at hx
  dsimp only at hx
  refine ev_steps 2 (c' := (14, [some (vR 0 l0), some (vI l1)], [vI (2 : Int32), vI l1])) (h' := (S, T)) rfl ?_
  refine ev_icmp_ge rfl (fun hc => ?_) (fun hc => ?_)
  · rw [if_pos hc] at hx
    refine ev_steps 3 (c' := (22, [some (vR 0 l0), some (vI l1)], [vI l1, vR 64 l0])) (h' := (S, T)) rfl ?_
    obtain ⟨hg, hx⟩ := ifg hx
    refine ev_aald2 rfl rfl hg ?_
    refine ev_steps 2 (c' := (27, [some (vR 0 l0), some (vI l1)], [vI (S cL_now l0 0), vR 3 (ix l1)])) (h' := (S, T)) rfl ?_
    obtain ⟨S186, hc, hx⟩ := bd_some hx
    refine ev_call rfl rfl rfl rfl rfl rfl rfl rfl rfl ((t_End_passTick scr (ix l1) (S cL_now l0 0) S T hc rfl).mono (by decide)) ?_
    refine ev_steps 2 (c' := (12, [some (vR 0 l0), some (vI (l1 + (1 : Int32)))], [])) (h' := (S186, T)) rfl ?_
    cases hx
    exact hG
  · rw [if_neg hc] at hx
    obtain ⟨x, hy, rfl⟩ := exW_some hx
    replace hx := hy
    simp only [Sum.elim_inr] at hG
    refine ev_steps 2 (c' := (40, [some (vR 0 l0), some (vI l1)], [vI (S cL_now l0 0)])) (h' := (S, T)) rfl ?_
    cases hx
    subst hG
    exact ev_ret rfl rfl
theorem t_L_tick_12 (scr : Nat × (Nat → Int32)) (l0 : Nat) (l1 : Int32) (S : St) (T : St) {x : Int32 × St} {o : Option iV × SS} (hx : f_L_tick_12 l0 (l1, S) = some x) (hG : (fun x => (some (vI x.1), (x.2, T)) = o) x) : EB scr 7 0 1 cd_L_tick (12, [some (vR 0 l0), some (vI l1)], []) (S, T) o := by
  exact iter_ind (P := fun q => EB scr 7 0 1 cd_L_tick (12, [some (vR 0 l0), some (vI q.1)], []) (q.2, T) o) (G := fun x => (some (vI x.1), (x.2, T)) = o) (fun q x hb hP  => t_L_tick_12_b scr l0 q.1 q.2 T hb hP) hx hG 
def f_L_tick (u : Nat) (S : St) : Option (Int32 × St) :=
  f_L_tick_12 u ((0 : Int32), up3 S cL_now u 0 ((S cL_now u 0) + (1 : Int32)))
theorem t_L_tick (scr : Nat × (Nat → Int32)) (u : Nat) (S T : St) {x : Int32 × St} {o : Option iV × SS} (hx : f_L_tick u S = some x) (hG : (some (vI x.1), (x.2, T)) = o) : E0 scr 8 7 [vR 0 u] (S, T) o := by
  refine ev_meth (ls := [some (vR 0 u), none]) rfl rfl rfl ?_
  unfold f_L_tick at hx
  refine ev_steps 8 (c' := (12, [some (vR 0 u), some (vI (0 : Int32))], [])) (h' := (up3 S cL_now u 0 ((S cL_now u 0) + (1 : Int32)), T)) rfl ?_
  exact t_L_tick_12 scr u (0 : Int32) (up3 S cL_now u 0 ((S cL_now u 0) + (1 : Int32))) T hx hG
-- ReadyList_firstOf
def f_ReadyList_firstOf_2_b (l0 : Nat) (l1 : Int32) (S : St) : (Int32) → Option ((Int32) ⊕ (Int32))
  | l2 => if l2 < (S cReadyList_count l0 0) then (if inb l2 512 = true then if (S cReadyList_streams l0 (ix l2)) = l1 then exW (some l2) else some (Sum.inl (l2 + (1 : Int32))) else none) else exW (some (-1 : Int32))
def f_ReadyList_firstOf_2 (l0 : Nat) (l1 : Int32) (S : St) (q : Int32) : Option (Int32) := iter (f_ReadyList_firstOf_2_b l0 l1 S) 4096 q
theorem t_ReadyList_firstOf_2_b (scr : Nat × (Nat → Int32)) (l0 : Nat) (l1 : Int32) (l2 : Int32) (S : St) (T : St) {x : (Int32) ⊕ (Int32)} {o : Option iV × SS} (hx : f_ReadyList_firstOf_2_b l0 l1 S l2 = some x) (hG : (Sum.elim (fun q => EB scr 0 8 1 cd_ReadyList_firstOf (2, [some (vR 8 l0), some (vI l1), some (vI q)], []) (S, T) o) (fun x => (some (vI x), (S, T)) = o)) x) : EB scr 0 8 1 cd_ReadyList_firstOf (2, [some (vR 8 l0), some (vI l1), some (vI l2)], []) (S, T) o := by
  unfold f_ReadyList_firstOf_2_b at hx
  dsimp only at hx
  refine ev_steps 3 (c' := (7, [some (vR 8 l0), some (vI l1), some (vI l2)], [vI (S cReadyList_count l0 0), vI l2])) (h' := (S, T)) rfl ?_
  refine ev_icmp_ge rfl (fun hc => ?_) (fun hc => ?_)
  · rw [if_pos hc] at hx
    refine ev_steps 3 (c' := (15, [some (vR 8 l0), some (vI l1), some (vI l2)], [vI l2, vR 70 l0])) (h' := (S, T)) rfl ?_
    obtain ⟨hg, hx⟩ := ifg hx
    refine ev_iald rfl rfl rfl hg ?_
    refine ev_steps 1 (c' := (17, [some (vR 8 l0), some (vI l1), some (vI l2)], [vI l1, vI (S cReadyList_streams l0 (ix l2))])) (h' := (S, T)) rfl ?_
    refine ev_icmp_ne rfl (fun hc => ?_) (fun hc => ?_)
    · rw [if_pos hc] at hx
      obtain ⟨x, hy, rfl⟩ := exW_some hx
      replace hx := hy
      simp only [Sum.elim_inr] at hG
      refine ev_steps 1 (c' := (21, [some (vR 8 l0), some (vI l1), some (vI l2)], [vI l2])) (h' := (S, T)) rfl ?_
      cases hx
      subst hG
      exact ev_ret rfl rfl
    · rw [if_neg hc] at hx
      refine ev_steps 2 (c' := (2, [some (vR 8 l0), some (vI l1), some (vI (l2 + (1 : Int32)))], [])) (h' := (S, T)) rfl ?_
      cases hx
      exact hG
  · rw [if_neg hc] at hx
    obtain ⟨x, hy, rfl⟩ := exW_some hx
    replace hx := hy
    simp only [Sum.elim_inr] at hG
    refine ev_steps 1 (c' := (29, [some (vR 8 l0), some (vI l1), some (vI l2)], [vI (-1 : Int32)])) (h' := (S, T)) rfl ?_
    cases hx
    subst hG
    exact ev_ret rfl rfl
theorem t_ReadyList_firstOf_2 (scr : Nat × (Nat → Int32)) (l0 : Nat) (l1 : Int32) (l2 : Int32) (S : St) (T : St) {x : Int32} {o : Option iV × SS} (hx : f_ReadyList_firstOf_2 l0 l1 S l2 = some x) (hG : (fun x => (some (vI x), (S, T)) = o) x) : EB scr 0 8 1 cd_ReadyList_firstOf (2, [some (vR 8 l0), some (vI l1), some (vI l2)], []) (S, T) o := by
  exact iter_ind (P := fun q => EB scr 0 8 1 cd_ReadyList_firstOf (2, [some (vR 8 l0), some (vI l1), some (vI q)], []) (S, T) o) (G := fun x => (some (vI x), (S, T)) = o) (fun q x hb hP  => t_ReadyList_firstOf_2_b scr l0 l1 q S T hb hP) hx hG 
def f_ReadyList_firstOf (u : Nat) (a1 : Int32) (S : St) : Option (Int32) :=
  f_ReadyList_firstOf_2 u a1 S (0 : Int32)
theorem t_ReadyList_firstOf (scr : Nat × (Nat → Int32)) (u : Nat) (a1 : Int32) (S T : St) {x : Int32} {o : Option iV × SS} (hx : f_ReadyList_firstOf u a1 S = some x) (hG : (some (vI x), (S, T)) = o) : E0 scr 1 145 [vR 8 u, vI a1] (S, T) o := by
  refine ev_meth (ls := [some (vR 8 u), some (vI a1), none]) rfl rfl rfl ?_
  unfold f_ReadyList_firstOf at hx
  refine ev_steps 2 (c' := (2, [some (vR 8 u), some (vI a1), some (vI (0 : Int32))], [])) (h' := (S, T)) rfl ?_
  exact t_ReadyList_firstOf_2 scr u a1 (0 : Int32) S T hx hG
-- ReadyList_takeFirst
def f_ReadyList_takeFirst_48_b (l0 : Nat) (l3 : Int32)  : (Int32 × St) → Option ((Int32 × St) ⊕ (Int32 × St))
  | (l4, S) => if l4 < (S cReadyList_count l0 0) then (if inb (l4 + (1 : Int32)) 512 = true then if inb l4 512 = true then if inb (l4 + (1 : Int32)) 512 = true then if inb l4 512 = true then if inb (l4 + (1 : Int32)) 512 = true then if inb l4 512 = true then some (Sum.inl (l4 + (1 : Int32), up3 (up3 (up3 S cReadyList_streams l0 (ix l4) (S cReadyList_streams l0 (ix (l4 + (1 : Int32))))) cReadyList_firstWords l0 (ix l4) (S cReadyList_firstWords l0 (ix (l4 + (1 : Int32))))) cReadyList_lengths l0 (ix l4) (S cReadyList_lengths l0 (ix (l4 + (1 : Int32)))))) else none else none else none else none else none else none) else exW (some (l3, S))
def f_ReadyList_takeFirst_48 (l0 : Nat) (l3 : Int32)  (q : Int32 × St) : Option (Int32 × St) := iter (f_ReadyList_takeFirst_48_b l0 l3) 4096 q
theorem t_ReadyList_takeFirst_48_b (scr : Nat × (Nat → Int32)) (l0 : Nat) (l3 : Int32) (l4 : Int32) (S : St) (T : St) (d1 d2 : Option iV) {x : (Int32 × St) ⊕ (Int32 × St)} {o : Option iV × SS} (hx : f_ReadyList_takeFirst_48_b l0 l3 (l4, S) = some x) (hG : (Sum.elim (fun q => ∀ d1 d2 : Option iV, EB scr 1 8 1 cd_ReadyList_takeFirst (48, [some (vR 8 l0), d1, d2, some (vI l3), some (vI q.1)], []) (q.2, T) o) (fun x => (some (vI x.1), (x.2, T)) = o)) x) : EB scr 1 8 1 cd_ReadyList_takeFirst (48, [some (vR 8 l0), d1, d2, some (vI l3), some (vI l4)], []) (S, T) o := by
  unfold f_ReadyList_takeFirst_48_b at hx
  dsimp only at hx
  refine ev_steps 3 (c' := (54, [some (vR 8 l0), _, _, some (vI l3), some (vI l4)], [vI (S cReadyList_count l0 0), vI l4])) (h' := (S, T)) rfl ?_
  refine ev_icmp_ge rfl (fun hc => ?_) (fun hc => ?_)
  · rw [if_pos hc] at hx
    refine ev_steps 8 (c' := (71, [some (vR 8 l0), _, _, some (vI l3), some (vI l4)], [vI (l4 + (1 : Int32)), vR 70 l0, vI l4, vR 70 l0])) (h' := (S, T)) rfl ?_
    obtain ⟨hg, hx⟩ := ifg hx
    refine ev_iald rfl rfl rfl hg ?_
    refine ev_steps 0 (c' := (72, [some (vR 8 l0), _, _, some (vI l3), some (vI l4)], [vI (S cReadyList_streams l0 (ix (l4 + (1 : Int32)))), vI l4, vR 70 l0])) (h' := (S, T)) rfl ?_
    obtain ⟨hg, hx⟩ := ifg hx
    refine ev_iast rfl rfl hg ?_
    refine ev_steps 8 (c' := (87, [some (vR 8 l0), _, _, some (vI l3), some (vI l4)], [vI (l4 + (1 : Int32)), vR 71 l0, vI l4, vR 71 l0])) (h' := (up3 S cReadyList_streams l0 (ix l4) (S cReadyList_streams l0 (ix (l4 + (1 : Int32)))), T)) rfl ?_
    obtain ⟨hg, hx⟩ := ifg hx
    refine ev_iald rfl rfl rfl hg ?_
    refine ev_steps 0 (c' := (88, [some (vR 8 l0), _, _, some (vI l3), some (vI l4)], [vI (S cReadyList_firstWords l0 (ix (l4 + (1 : Int32)))), vI l4, vR 71 l0])) (h' := (up3 S cReadyList_streams l0 (ix l4) (S cReadyList_streams l0 (ix (l4 + (1 : Int32)))), T)) rfl ?_
    obtain ⟨hg, hx⟩ := ifg hx
    refine ev_iast rfl rfl hg ?_
    refine ev_steps 8 (c' := (103, [some (vR 8 l0), _, _, some (vI l3), some (vI l4)], [vI (l4 + (1 : Int32)), vR 72 l0, vI l4, vR 72 l0])) (h' := (up3 (up3 S cReadyList_streams l0 (ix l4) (S cReadyList_streams l0 (ix (l4 + (1 : Int32))))) cReadyList_firstWords l0 (ix l4) (S cReadyList_firstWords l0 (ix (l4 + (1 : Int32)))), T)) rfl ?_
    obtain ⟨hg, hx⟩ := ifg hx
    refine ev_iald rfl rfl rfl hg ?_
    refine ev_steps 0 (c' := (104, [some (vR 8 l0), _, _, some (vI l3), some (vI l4)], [vI (S cReadyList_lengths l0 (ix (l4 + (1 : Int32)))), vI l4, vR 72 l0])) (h' := (up3 (up3 S cReadyList_streams l0 (ix l4) (S cReadyList_streams l0 (ix (l4 + (1 : Int32))))) cReadyList_firstWords l0 (ix l4) (S cReadyList_firstWords l0 (ix (l4 + (1 : Int32)))), T)) rfl ?_
    obtain ⟨hg, hx⟩ := ifg hx
    refine ev_iast rfl rfl hg ?_
    refine ev_steps 2 (c' := (48, [some (vR 8 l0), _, _, some (vI l3), some (vI (l4 + (1 : Int32)))], [])) (h' := (up3 (up3 (up3 S cReadyList_streams l0 (ix l4) (S cReadyList_streams l0 (ix (l4 + (1 : Int32))))) cReadyList_firstWords l0 (ix l4) (S cReadyList_firstWords l0 (ix (l4 + (1 : Int32))))) cReadyList_lengths l0 (ix l4) (S cReadyList_lengths l0 (ix (l4 + (1 : Int32)))), T)) rfl ?_
    cases hx
    exact hG _ _
  · rw [if_neg hc] at hx
    obtain ⟨x, hy, rfl⟩ := exW_some hx
    replace hx := hy
    simp only [Sum.elim_inr] at hG
    refine ev_steps 1 (c' := (112, [some (vR 8 l0), _, _, some (vI l3), some (vI l4)], [vI l3])) (h' := (S, T)) rfl ?_
    cases hx
    subst hG
    exact ev_ret rfl rfl
theorem t_ReadyList_takeFirst_48 (scr : Nat × (Nat → Int32)) (l0 : Nat) (l3 : Int32) (l4 : Int32) (S : St) (T : St) (d1 d2 : Option iV) {x : Int32 × St} {o : Option iV × SS} (hx : f_ReadyList_takeFirst_48 l0 l3 (l4, S) = some x) (hG : (fun x => (some (vI x.1), (x.2, T)) = o) x) : EB scr 1 8 1 cd_ReadyList_takeFirst (48, [some (vR 8 l0), d1, d2, some (vI l3), some (vI l4)], []) (S, T) o := by
  exact iter_ind (P := fun q => ∀ d1 d2 : Option iV, EB scr 1 8 1 cd_ReadyList_takeFirst (48, [some (vR 8 l0), d1, d2, some (vI l3), some (vI q.1)], []) (q.2, T) o) (G := fun x => (some (vI x.1), (x.2, T)) = o) (fun q x hb hP d1 d2 => t_ReadyList_takeFirst_48_b scr l0 l3 q.1 q.2 T d1 d2 hb hP) hx hG d1 d2
def f_ReadyList_takeFirst (u : Nat) (a1 : Int32) (S : St) : Option (Int32 × St) :=
  bd (f_ReadyList_firstOf u a1 S) (fun r187 => if r187 = (-1 : Int32) then some ((0 : Int32), S) else (if inb r187 512 = true then if inb r187 512 = true then f_ReadyList_takeFirst_48 u (S cReadyList_firstWords u (ix r187)) (r187, up3 (up3 S cReadyList_words u 0 ((S cReadyList_words u 0) - (S cReadyList_lengths u (ix r187)))) cReadyList_count u 0 ((S cReadyList_count u 0) - (1 : Int32))) else none else none))
theorem t_ReadyList_takeFirst (scr : Nat × (Nat → Int32)) (u : Nat) (a1 : Int32) (S T : St) {x : Int32 × St} {o : Option iV × SS} (hx : f_ReadyList_takeFirst u a1 S = some x) (hG : (some (vI x.1), (x.2, T)) = o) : E0 scr 2 144 [vR 8 u, vI a1] (S, T) o := by
  refine ev_meth (ls := [some (vR 8 u), some (vI a1), none, none, none]) rfl rfl rfl ?_
  unfold f_ReadyList_takeFirst at hx
  refine ev_steps 2 (c' := (2, [some (vR 8 u), some (vI a1), none, none, none], [vI a1, vR 8 u])) (h' := (S, T)) rfl ?_
  obtain ⟨r187, hc, hx⟩ := bd_some hx
  refine ev_call rfl rfl rfl rfl rfl rfl rfl rfl rfl ((t_ReadyList_firstOf scr u a1 S T hc rfl).mono (by decide)) ?_
  refine ev_steps 3 (c' := (8, [some (vR 8 u), some (vI a1), some (vI r187), none, none], [vI (-1 : Int32), vI r187])) (h' := (S, T)) rfl ?_
  refine ev_icmp_ne rfl (fun hc => ?_) (fun hc => ?_)
  · rw [if_pos hc] at hx
    refine ev_steps 1 (c' := (12, [some (vR 8 u), some (vI a1), some (vI r187), none, none], [vI (0 : Int32)])) (h' := (S, T)) rfl ?_
    cases hx
    subst hG
    exact ev_ret rfl rfl
  · rw [if_neg hc] at hx
    refine ev_steps 3 (c' := (18, [some (vR 8 u), some (vI a1), some (vI r187), none, none], [vI r187, vR 71 u])) (h' := (S, T)) rfl ?_
    obtain ⟨hg, hx⟩ := ifg hx
    refine ev_iald rfl rfl rfl hg ?_
    refine ev_steps 7 (c' := (30, [some (vR 8 u), some (vI a1), some (vI r187), some (vI (S cReadyList_firstWords u (ix r187))), none], [vI r187, vR 72 u, vI (S cReadyList_words u 0), vR 8 u])) (h' := (S, T)) rfl ?_
    obtain ⟨hg, hx⟩ := ifg hx
    refine ev_iald rfl rfl rfl hg ?_
    refine ev_steps 10 (c' := (48, [some (vR 8 u), some (vI a1), some (vI r187), some (vI (S cReadyList_firstWords u (ix r187))), some (vI r187)], [])) (h' := (up3 (up3 S cReadyList_words u 0 ((S cReadyList_words u 0) - (S cReadyList_lengths u (ix r187)))) cReadyList_count u 0 ((S cReadyList_count u 0) - (1 : Int32)), T)) rfl ?_
    exact t_ReadyList_takeFirst_48 scr u (S cReadyList_firstWords u (ix r187)) r187 (up3 (up3 S cReadyList_words u 0 ((S cReadyList_words u 0) - (S cReadyList_lengths u (ix r187)))) cReadyList_count u 0 ((S cReadyList_count u 0) - (1 : Int32))) T _ _ hx hG
-- L_read
def f_L_read_14 (S : St) : Option (Int32 × St) :=
  some ((0 : Int32), S)
theorem t_L_read_14 (scr : Nat × (Nat → Int32)) (S : St) (T : St) (d0 d1 d2 : Option iV) {x : Int32 × St} {o : Option iV × SS} (hx : f_L_read_14 S = some x) (hG : (fun x => (some (vI x.1), (x.2, T)) = o) x) : EB scr 2 0 1 cd_L_read (14, [d0, d1, d2], []) (S, T) o := by
  unfold f_L_read_14 at hx
  try dsimp only at hG
  refine ev_steps 1 (c' := (15, [_, _, _], [vI (0 : Int32)])) (h' := (S, T)) rfl ?_
  cases hx
  subst hG
  exact ev_ret rfl rfl
def f_L_read (u : Nat) (a1 : Int32) (a2 : Int32) (S : St) : Option (Int32 × St) :=
  if (f_L_isEnd a1) = 0 then f_L_read_14 S else (if (f_L_isStream a2) = 0 then f_L_read_14 S else (if inb a1 2 = true then bd2 (f_ReadyList_takeFirst (ix a1) a2 S) (fun r189 S190 => some (r189, S190)) else none))
theorem t_L_read (scr : Nat × (Nat → Int32)) (u : Nat) (a1 : Int32) (a2 : Int32) (S T : St) {x : Int32 × St} {o : Option iV × SS} (hx : f_L_read u a1 a2 S = some x) (hG : (some (vI x.1), (x.2, T)) = o) : E0 scr 3 8 [vR 0 u, vI a1, vI a2] (S, T) o := by
  refine ev_meth (ls := [some (vR 0 u), some (vI a1), some (vI a2)]) rfl rfl rfl ?_
  unfold f_L_read at hx
  refine ev_steps 1 (c' := (1, [some (vR 0 u), some (vI a1), some (vI a2)], [vI a1])) (h' := (S, T)) rfl ?_
  refine ev_call rfl rfl rfl rfl rfl rfl rfl rfl rfl ((t_L_isEnd scr a1 S T rfl).mono (by decide)) ?_
  refine ev_steps 0 (c' := (4, [some (vR 0 u), some (vI a1), some (vI a2)], [vI (f_L_isEnd a1)])) (h' := (S, T)) rfl ?_
  refine ev_if_eq rfl (fun hc => ?_) (fun hc => ?_)
  · rw [if_pos hc] at hx
    exact t_L_read_14 scr S T _ _ _ hx hG
  · rw [if_neg hc] at hx
    refine ev_steps 1 (c' := (8, [some (vR 0 u), some (vI a1), some (vI a2)], [vI a2])) (h' := (S, T)) rfl ?_
    refine ev_call rfl rfl rfl rfl rfl rfl rfl rfl rfl ((t_L_isStream scr a2 S T rfl).mono (by decide)) ?_
    refine ev_steps 0 (c' := (11, [some (vR 0 u), some (vI a1), some (vI a2)], [vI (f_L_isStream a2)])) (h' := (S, T)) rfl ?_
    refine ev_if_ne rfl (fun hc => ?_) (fun hc => ?_)
    · rw [if_pos hc] at hx
      exact t_L_read_14 scr S T _ _ _ hx hG
    · rw [if_neg hc] at hx
      refine ev_steps 3 (c' := (21, [some (vR 0 u), some (vI a1), some (vI a2)], [vI a1, vR 64 u])) (h' := (S, T)) rfl ?_
      obtain ⟨hg, hx⟩ := ifg hx
      refine ev_aald2 rfl rfl hg ?_
      refine ev_steps 3 (c' := (29, [some (vR 0 u), some (vI a1), some (vI a2)], [vI a2, vR 8 (ix a1)])) (h' := (S, T)) rfl ?_
      obtain ⟨r189, S190, hc, hx⟩ := bd2_some hx
      refine ev_call rfl rfl rfl rfl rfl rfl rfl rfl rfl ((t_ReadyList_takeFirst scr (ix a1) a2 S T hc rfl).mono (by decide)) ?_
      refine ev_steps 0 (c' := (32, [some (vR 0 u), some (vI a1), some (vI a2)], [vI r189])) (h' := (S190, T)) rfl ?_
      cases hx
      subst hG
      exact ev_ret rfl rfl
-- ReadyList_countOf
def f_ReadyList_countOf_25 (l0 : Nat) (l1 : Int32) (l2 : Int32) (l3 : Int32) (S : St) : Option ((Int32 × Int32) ⊕ (Int32)) :=
  some (Sum.inl (l2, l3 + (1 : Int32)))
theorem t_ReadyList_countOf_25 (scr : Nat × (Nat → Int32)) (l0 : Nat) (l1 : Int32) (l2 : Int32) (l3 : Int32) (S : St) (T : St) {x : (Int32 × Int32) ⊕ (Int32)} {o : Option iV × SS} (hx : f_ReadyList_countOf_25 l0 l1 l2 l3 S = some x) (hG : (Sum.elim (fun q => EB scr 0 8 1 cd_ReadyList_countOf (4, [some (vR 8 l0), some (vI l1), some (vI q.1), some (vI q.2)], []) (S, T) o) (fun x => (some (vI x), (S, T)) = o)) x) : EB scr 0 8 1 cd_ReadyList_countOf (25, [some (vR 8 l0), some (vI l1), some (vI l2), some (vI l3)], []) (S, T) o := by
  unfold f_ReadyList_countOf_25 at hx
  try dsimp only at hG
  refine ev_steps 2 (c' := (4, [some (vR 8 l0), some (vI l1), some (vI l2), some (vI (l3 + (1 : Int32)))], [])) (h' := (S, T)) rfl ?_
  cases hx
  exact hG
def f_ReadyList_countOf_4_b (l0 : Nat) (l1 : Int32) (S : St) : (Int32 × Int32) → Option ((Int32 × Int32) ⊕ (Int32))
  | (l2, l3) => if l3 < (S cReadyList_count l0 0) then (if inb l3 512 = true then if (S cReadyList_streams l0 (ix l3)) = l1 then f_ReadyList_countOf_25 l0 l1 (l2 + (1 : Int32)) l3 S else f_ReadyList_countOf_25 l0 l1 l2 l3 S else none) else exW (some l2)
def f_ReadyList_countOf_4 (l0 : Nat) (l1 : Int32) (S : St) (q : Int32 × Int32) : Option (Int32) := iter (f_ReadyList_countOf_4_b l0 l1 S) 4096 q
theorem t_ReadyList_countOf_4_b (scr : Nat × (Nat → Int32)) (l0 : Nat) (l1 : Int32) (l2 : Int32) (l3 : Int32) (S : St) (T : St) {x : (Int32 × Int32) ⊕ (Int32)} {o : Option iV × SS} (hx : f_ReadyList_countOf_4_b l0 l1 S (l2, l3) = some x) (hG : (Sum.elim (fun q => EB scr 0 8 1 cd_ReadyList_countOf (4, [some (vR 8 l0), some (vI l1), some (vI q.1), some (vI q.2)], []) (S, T) o) (fun x => (some (vI x), (S, T)) = o)) x) : EB scr 0 8 1 cd_ReadyList_countOf (4, [some (vR 8 l0), some (vI l1), some (vI l2), some (vI l3)], []) (S, T) o := by
  unfold f_ReadyList_countOf_4_b at hx
  dsimp only at hx
  refine ev_steps 3 (c' := (9, [some (vR 8 l0), some (vI l1), some (vI l2), some (vI l3)], [vI (S cReadyList_count l0 0), vI l3])) (h' := (S, T)) rfl ?_
  refine ev_icmp_ge rfl (fun hc => ?_) (fun hc => ?_)
  · rw [if_pos hc] at hx
    refine ev_steps 3 (c' := (17, [some (vR 8 l0), some (vI l1), some (vI l2), some (vI l3)], [vI l3, vR 70 l0])) (h' := (S, T)) rfl ?_
    obtain ⟨hg, hx⟩ := ifg hx
    refine ev_iald rfl rfl rfl hg ?_
    refine ev_steps 1 (c' := (19, [some (vR 8 l0), some (vI l1), some (vI l2), some (vI l3)], [vI l1, vI (S cReadyList_streams l0 (ix l3))])) (h' := (S, T)) rfl ?_
    refine ev_icmp_ne rfl (fun hc => ?_) (fun hc => ?_)
    · rw [if_pos hc] at hx
      refine ev_steps 1 (c' := (25, [some (vR 8 l0), some (vI l1), some (vI (l2 + (1 : Int32))), some (vI l3)], [])) (h' := (S, T)) rfl ?_
      exact t_ReadyList_countOf_25 scr l0 l1 (l2 + (1 : Int32)) l3 S T hx hG
    · rw [if_neg hc] at hx
      exact t_ReadyList_countOf_25 scr l0 l1 l2 l3 S T hx hG
  · rw [if_neg hc] at hx
    obtain ⟨x, hy, rfl⟩ := exW_some hx
    replace hx := hy
    simp only [Sum.elim_inr] at hG
    refine ev_steps 1 (c' := (32, [some (vR 8 l0), some (vI l1), some (vI l2), some (vI l3)], [vI l2])) (h' := (S, T)) rfl ?_
    cases hx
    subst hG
    exact ev_ret rfl rfl
theorem t_ReadyList_countOf_4 (scr : Nat × (Nat → Int32)) (l0 : Nat) (l1 : Int32) (l2 : Int32) (l3 : Int32) (S : St) (T : St) {x : Int32} {o : Option iV × SS} (hx : f_ReadyList_countOf_4 l0 l1 S (l2, l3) = some x) (hG : (fun x => (some (vI x), (S, T)) = o) x) : EB scr 0 8 1 cd_ReadyList_countOf (4, [some (vR 8 l0), some (vI l1), some (vI l2), some (vI l3)], []) (S, T) o := by
  exact iter_ind (P := fun q => EB scr 0 8 1 cd_ReadyList_countOf (4, [some (vR 8 l0), some (vI l1), some (vI q.1), some (vI q.2)], []) (S, T) o) (G := fun x => (some (vI x), (S, T)) = o) (fun q x hb hP  => t_ReadyList_countOf_4_b scr l0 l1 q.1 q.2 S T hb hP) hx hG 
def f_ReadyList_countOf (u : Nat) (a1 : Int32) (S : St) : Option (Int32) :=
  f_ReadyList_countOf_4 u a1 S ((0 : Int32), (0 : Int32))
theorem t_ReadyList_countOf (scr : Nat × (Nat → Int32)) (u : Nat) (a1 : Int32) (S T : St) {x : Int32} {o : Option iV × SS} (hx : f_ReadyList_countOf u a1 S = some x) (hG : (some (vI x), (S, T)) = o) : E0 scr 1 142 [vR 8 u, vI a1] (S, T) o := by
  refine ev_meth (ls := [some (vR 8 u), some (vI a1), none, none]) rfl rfl rfl ?_
  unfold f_ReadyList_countOf at hx
  refine ev_steps 4 (c' := (4, [some (vR 8 u), some (vI a1), some (vI (0 : Int32)), some (vI (0 : Int32))], [])) (h' := (S, T)) rfl ?_
  exact t_ReadyList_countOf_4 scr u a1 (0 : Int32) (0 : Int32) S T hx hG
-- L_ready
def f_L_ready_14 (S : St) : Option (Int32) :=
  some (-1 : Int32)
theorem t_L_ready_14 (scr : Nat × (Nat → Int32)) (S : St) (T : St) (d0 d1 d2 : Option iV) {x : Int32} {o : Option iV × SS} (hx : f_L_ready_14 S = some x) (hG : (fun x => (some (vI x), (S, T)) = o) x) : EB scr 1 0 1 cd_L_ready (14, [d0, d1, d2], []) (S, T) o := by
  unfold f_L_ready_14 at hx
  try dsimp only at hG
  refine ev_steps 1 (c' := (15, [_, _, _], [vI (-1 : Int32)])) (h' := (S, T)) rfl ?_
  cases hx
  subst hG
  exact ev_ret rfl rfl
def f_L_ready (u : Nat) (a1 : Int32) (a2 : Int32) (S : St) : Option (Int32) :=
  if (f_L_isEnd a1) = 0 then f_L_ready_14 S else (if (f_L_isStream a2) = 0 then f_L_ready_14 S else (if inb a1 2 = true then bd (f_ReadyList_countOf (ix a1) a2 S) (fun r191 => some r191) else none))
theorem t_L_ready (scr : Nat × (Nat → Int32)) (u : Nat) (a1 : Int32) (a2 : Int32) (S T : St) {x : Int32} {o : Option iV × SS} (hx : f_L_ready u a1 a2 S = some x) (hG : (some (vI x), (S, T)) = o) : E0 scr 2 9 [vR 0 u, vI a1, vI a2] (S, T) o := by
  refine ev_meth (ls := [some (vR 0 u), some (vI a1), some (vI a2)]) rfl rfl rfl ?_
  unfold f_L_ready at hx
  refine ev_steps 1 (c' := (1, [some (vR 0 u), some (vI a1), some (vI a2)], [vI a1])) (h' := (S, T)) rfl ?_
  refine ev_call rfl rfl rfl rfl rfl rfl rfl rfl rfl ((t_L_isEnd scr a1 S T rfl).mono (by decide)) ?_
  refine ev_steps 0 (c' := (4, [some (vR 0 u), some (vI a1), some (vI a2)], [vI (f_L_isEnd a1)])) (h' := (S, T)) rfl ?_
  refine ev_if_eq rfl (fun hc => ?_) (fun hc => ?_)
  · rw [if_pos hc] at hx
    exact t_L_ready_14 scr S T _ _ _ hx hG
  · rw [if_neg hc] at hx
    refine ev_steps 1 (c' := (8, [some (vR 0 u), some (vI a1), some (vI a2)], [vI a2])) (h' := (S, T)) rfl ?_
    refine ev_call rfl rfl rfl rfl rfl rfl rfl rfl rfl ((t_L_isStream scr a2 S T rfl).mono (by decide)) ?_
    refine ev_steps 0 (c' := (11, [some (vR 0 u), some (vI a1), some (vI a2)], [vI (f_L_isStream a2)])) (h' := (S, T)) rfl ?_
    refine ev_if_ne rfl (fun hc => ?_) (fun hc => ?_)
    · rw [if_pos hc] at hx
      exact t_L_ready_14 scr S T _ _ _ hx hG
    · rw [if_neg hc] at hx
      refine ev_steps 3 (c' := (21, [some (vR 0 u), some (vI a1), some (vI a2)], [vI a1, vR 64 u])) (h' := (S, T)) rfl ?_
      obtain ⟨hg, hx⟩ := ifg hx
      refine ev_aald2 rfl rfl hg ?_
      refine ev_steps 3 (c' := (29, [some (vR 0 u), some (vI a1), some (vI a2)], [vI a2, vR 8 (ix a1)])) (h' := (S, T)) rfl ?_
      obtain ⟨r191, hc, hx⟩ := bd_some hx
      refine ev_call rfl rfl rfl rfl rfl rfl rfl rfl rfl ((t_ReadyList_countOf scr (ix a1) a2 S T hc rfl).mono (by decide)) ?_
      refine ev_steps 0 (c' := (32, [some (vR 0 u), some (vI a1), some (vI a2)], [vI r191])) (h' := (S, T)) rfl ?_
      cases hx
      subst hG
      exact ev_ret rfl rfl
-- ReadyList_firstLength
def f_ReadyList_firstLength (u : Nat) (a1 : Int32) (S : St) : Option (Int32) :=
  bd (f_ReadyList_firstOf u a1 S) (fun r193 => if r193 = (-1 : Int32) then some (0 : Int32) else (if inb r193 512 = true then some (S cReadyList_lengths u (ix r193)) else none))
theorem t_ReadyList_firstLength (scr : Nat × (Nat → Int32)) (u : Nat) (a1 : Int32) (S T : St) {x : Int32} {o : Option iV × SS} (hx : f_ReadyList_firstLength u a1 S = some x) (hG : (some (vI x), (S, T)) = o) : E0 scr 2 143 [vR 8 u, vI a1] (S, T) o := by
  refine ev_meth (ls := [some (vR 8 u), some (vI a1), none]) rfl rfl rfl ?_
  unfold f_ReadyList_firstLength at hx
  refine ev_steps 2 (c' := (2, [some (vR 8 u), some (vI a1), none], [vI a1, vR 8 u])) (h' := (S, T)) rfl ?_
  obtain ⟨r193, hc, hx⟩ := bd_some hx
  refine ev_call rfl rfl rfl rfl rfl rfl rfl rfl rfl ((t_ReadyList_firstOf scr u a1 S T hc rfl).mono (by decide)) ?_
  refine ev_steps 3 (c' := (8, [some (vR 8 u), some (vI a1), some (vI r193)], [vI (-1 : Int32), vI r193])) (h' := (S, T)) rfl ?_
  refine ev_icmp_ne rfl (fun hc => ?_) (fun hc => ?_)
  · rw [if_pos hc] at hx
    refine ev_steps 2 (c' := (21, [some (vR 8 u), some (vI a1), some (vI r193)], [vI (0 : Int32)])) (h' := (S, T)) rfl ?_
    cases hx
    subst hG
    exact ev_ret rfl rfl
  · rw [if_neg hc] at hx
    refine ev_steps 3 (c' := (20, [some (vR 8 u), some (vI a1), some (vI r193)], [vI r193, vR 72 u])) (h' := (S, T)) rfl ?_
    obtain ⟨hg, hx⟩ := ifg hx
    refine ev_iald rfl rfl rfl hg ?_
    refine ev_steps 0 (c' := (21, [some (vR 8 u), some (vI a1), some (vI r193)], [vI (S cReadyList_lengths u (ix r193))])) (h' := (S, T)) rfl ?_
    cases hx
    subst hG
    exact ev_ret rfl rfl
-- L_length
def f_L_length_14 (S : St) : Option (Int32) :=
  some (0 : Int32)
theorem t_L_length_14 (scr : Nat × (Nat → Int32)) (S : St) (T : St) (d0 d1 d2 : Option iV) {x : Int32} {o : Option iV × SS} (hx : f_L_length_14 S = some x) (hG : (fun x => (some (vI x), (S, T)) = o) x) : EB scr 2 0 1 cd_L_length (14, [d0, d1, d2], []) (S, T) o := by
  unfold f_L_length_14 at hx
  try dsimp only at hG
  refine ev_steps 1 (c' := (15, [_, _, _], [vI (0 : Int32)])) (h' := (S, T)) rfl ?_
  cases hx
  subst hG
  exact ev_ret rfl rfl
def f_L_length (u : Nat) (a1 : Int32) (a2 : Int32) (S : St) : Option (Int32) :=
  if (f_L_isEnd a1) = 0 then f_L_length_14 S else (if (f_L_isStream a2) = 0 then f_L_length_14 S else (if inb a1 2 = true then bd (f_ReadyList_firstLength (ix a1) a2 S) (fun r195 => some r195) else none))
theorem t_L_length (scr : Nat × (Nat → Int32)) (u : Nat) (a1 : Int32) (a2 : Int32) (S T : St) {x : Int32} {o : Option iV × SS} (hx : f_L_length u a1 a2 S = some x) (hG : (some (vI x), (S, T)) = o) : E0 scr 3 10 [vR 0 u, vI a1, vI a2] (S, T) o := by
  refine ev_meth (ls := [some (vR 0 u), some (vI a1), some (vI a2)]) rfl rfl rfl ?_
  unfold f_L_length at hx
  refine ev_steps 1 (c' := (1, [some (vR 0 u), some (vI a1), some (vI a2)], [vI a1])) (h' := (S, T)) rfl ?_
  refine ev_call rfl rfl rfl rfl rfl rfl rfl rfl rfl ((t_L_isEnd scr a1 S T rfl).mono (by decide)) ?_
  refine ev_steps 0 (c' := (4, [some (vR 0 u), some (vI a1), some (vI a2)], [vI (f_L_isEnd a1)])) (h' := (S, T)) rfl ?_
  refine ev_if_eq rfl (fun hc => ?_) (fun hc => ?_)
  · rw [if_pos hc] at hx
    exact t_L_length_14 scr S T _ _ _ hx hG
  · rw [if_neg hc] at hx
    refine ev_steps 1 (c' := (8, [some (vR 0 u), some (vI a1), some (vI a2)], [vI a2])) (h' := (S, T)) rfl ?_
    refine ev_call rfl rfl rfl rfl rfl rfl rfl rfl rfl ((t_L_isStream scr a2 S T rfl).mono (by decide)) ?_
    refine ev_steps 0 (c' := (11, [some (vR 0 u), some (vI a1), some (vI a2)], [vI (f_L_isStream a2)])) (h' := (S, T)) rfl ?_
    refine ev_if_ne rfl (fun hc => ?_) (fun hc => ?_)
    · rw [if_pos hc] at hx
      exact t_L_length_14 scr S T _ _ _ hx hG
    · rw [if_neg hc] at hx
      refine ev_steps 3 (c' := (21, [some (vR 0 u), some (vI a1), some (vI a2)], [vI a1, vR 64 u])) (h' := (S, T)) rfl ?_
      obtain ⟨hg, hx⟩ := ifg hx
      refine ev_aald2 rfl rfl hg ?_
      refine ev_steps 3 (c' := (29, [some (vR 0 u), some (vI a1), some (vI a2)], [vI a2, vR 8 (ix a1)])) (h' := (S, T)) rfl ?_
      obtain ⟨r195, hc, hx⟩ := bd_some hx
      refine ev_call rfl rfl rfl rfl rfl rfl rfl rfl rfl ((t_ReadyList_firstLength scr (ix a1) a2 S T hc rfl).mono (by decide)) ?_
      refine ev_steps 0 (c' := (32, [some (vR 0 u), some (vI a1), some (vI a2)], [vI r195])) (h' := (S, T)) rfl ?_
      cases hx
      subst hG
      exact ev_ret rfl rfl
-- L_abort
def f_L_abort_19 (S : St) : Option (Int32 × St) :=
  some ((0 : Int32), S)
theorem t_L_abort_19 (scr : Nat × (Nat → Int32)) (S : St) (T : St) (d0 d1 : Option iV) {x : Int32 × St} {o : Option iV × SS} (hx : f_L_abort_19 S = some x) (hG : (fun x => (some (vI x.1), (x.2, T)) = o) x) : EB scr 4 0 2 cd_L_abort (19, [d0, d1], []) (S, T) o := by
  unfold f_L_abort_19 at hx
  try dsimp only at hG
  refine ev_steps 1 (c' := (20, [_, _], [vI (0 : Int32)])) (h' := (S, T)) rfl ?_
  cases hx
  subst hG
  exact ev_ret rfl rfl
def f_L_abort_43 (l0 : Nat) (l1 : Int32) (S : St) : Option (Int32 × St) :=
  if inb l1 2 = true then bd (f_End_close (ix l1) (3 : Int32) S) (fun S198 => some ((1 : Int32), S198)) else none
theorem t_L_abort_43 (scr : Nat × (Nat → Int32)) (l0 : Nat) (l1 : Int32) (S : St) (T : St) {x : Int32 × St} {o : Option iV × SS} (hx : f_L_abort_43 l0 l1 S = some x) (hG : (fun x => (some (vI x.1), (x.2, T)) = o) x) : EB scr 4 0 2 cd_L_abort (43, [some (vR 0 l0), some (vI l1)], []) (S, T) o := by
  unfold f_L_abort_43 at hx
  try dsimp only at hG
  refine ev_steps 3 (c' := (48, [some (vR 0 l0), some (vI l1)], [vI l1, vR 64 l0])) (h' := (S, T)) rfl ?_
  obtain ⟨hg, hx⟩ := ifg hx
  refine ev_aald2 rfl rfl hg ?_
  refine ev_steps 1 (c' := (50, [some (vR 0 l0), some (vI l1)], [vI (3 : Int32), vR 3 (ix l1)])) (h' := (S, T)) rfl ?_
  obtain ⟨S198, hc, hx⟩ := bd_some hx
  refine ev_call rfl rfl rfl rfl rfl rfl rfl rfl rfl ((t_End_close scr (ix l1) (3 : Int32) S T hc rfl).mono (by decide)) ?_
  refine ev_steps 1 (c' := (54, [some (vR 0 l0), some (vI l1)], [vI (1 : Int32)])) (h' := (S198, T)) rfl ?_
  cases hx
  subst hG
  exact ev_ret rfl rfl
def f_L_abort (u : Nat) (a1 : Int32) (S : St) : Option (Int32 × St) :=
  if (f_L_isEnd a1) = 0 then f_L_abort_19 S else (if inb a1 2 = true then if (S cEnd_state (ix a1) 0) = 0 then f_L_abort_19 S else (if inb a1 2 = true then if (S cEnd_state (ix a1) 0) = (3 : Int32) then (if inb a1 2 = true then bd (f_End_postAbort (ix a1) S) (fun S200 => f_L_abort_43 u a1 S200) else none) else f_L_abort_43 u a1 S else none) else none)
theorem t_L_abort (scr : Nat × (Nat → Int32)) (u : Nat) (a1 : Int32) (S T : St) {x : Int32 × St} {o : Option iV × SS} (hx : f_L_abort u a1 S = some x) (hG : (some (vI x.1), (x.2, T)) = o) : E0 scr 5 11 [vR 0 u, vI a1] (S, T) o := by
  refine ev_meth (ls := [some (vR 0 u), some (vI a1)]) rfl rfl rfl ?_
  unfold f_L_abort at hx
  refine ev_steps 1 (c' := (1, [some (vR 0 u), some (vI a1)], [vI a1])) (h' := (S, T)) rfl ?_
  refine ev_call rfl rfl rfl rfl rfl rfl rfl rfl rfl ((t_L_isEnd scr a1 S T rfl).mono (by decide)) ?_
  refine ev_steps 0 (c' := (4, [some (vR 0 u), some (vI a1)], [vI (f_L_isEnd a1)])) (h' := (S, T)) rfl ?_
  refine ev_if_eq rfl (fun hc => ?_) (fun hc => ?_)
  · rw [if_pos hc] at hx
    exact t_L_abort_19 scr S T _ _ hx hG
  · rw [if_neg hc] at hx
    refine ev_steps 3 (c' := (12, [some (vR 0 u), some (vI a1)], [vI a1, vR 64 u])) (h' := (S, T)) rfl ?_
    obtain ⟨hg, hx⟩ := ifg hx
    refine ev_aald2 rfl rfl hg ?_
    refine ev_steps 1 (c' := (16, [some (vR 0 u), some (vI a1)], [vI (S cEnd_state (ix a1) 0)])) (h' := (S, T)) rfl ?_
    refine ev_if_ne rfl (fun hc => ?_) (fun hc => ?_)
    · rw [if_pos hc] at hx
      exact t_L_abort_19 scr S T _ _ hx hG
    · rw [if_neg hc] at hx
      refine ev_steps 3 (c' := (26, [some (vR 0 u), some (vI a1)], [vI a1, vR 64 u])) (h' := (S, T)) rfl ?_
      obtain ⟨hg, hx⟩ := ifg hx
      refine ev_aald2 rfl rfl hg ?_
      refine ev_steps 2 (c' := (31, [some (vR 0 u), some (vI a1)], [vI (3 : Int32), vI (S cEnd_state (ix a1) 0)])) (h' := (S, T)) rfl ?_
      refine ev_icmp_ne rfl (fun hc => ?_) (fun hc => ?_)
      · rw [if_pos hc] at hx
        refine ev_steps 3 (c' := (39, [some (vR 0 u), some (vI a1)], [vI a1, vR 64 u])) (h' := (S, T)) rfl ?_
        obtain ⟨hg, hx⟩ := ifg hx
        refine ev_aald2 rfl rfl hg ?_
        refine ev_steps 0 (c' := (40, [some (vR 0 u), some (vI a1)], [vR 3 (ix a1)])) (h' := (S, T)) rfl ?_
        obtain ⟨S200, hc, hx⟩ := bd_some hx
        refine ev_call rfl rfl rfl rfl rfl rfl rfl rfl rfl ((t_End_postAbort scr (ix a1) S T hc rfl).mono (by decide)) ?_
        refine ev_steps 0 (c' := (43, [some (vR 0 u), some (vI a1)], [])) (h' := (S200, T)) rfl ?_
        exact t_L_abort_43 scr u a1 S200 T hx hG
      · rw [if_neg hc] at hx
        exact t_L_abort_43 scr u a1 S T hx hG
-- L_primary
def f_L_primary_27 (S : St) : Option (Int32 × St) :=
  some ((0 : Int32), S)
theorem t_L_primary_27 (scr : Nat × (Nat → Int32)) (S : St) (T : St) (d0 d1 d2 : Option iV) {x : Int32 × St} {o : Option iV × SS} (hx : f_L_primary_27 S = some x) (hG : (fun x => (some (vI x.1), (x.2, T)) = o) x) : EB scr 1 0 2 cd_L_primary (27, [d0, d1, d2], []) (S, T) o := by
  unfold f_L_primary_27 at hx
  try dsimp only at hG
  refine ev_steps 1 (c' := (28, [_, _, _], [vI (0 : Int32)])) (h' := (S, T)) rfl ?_
  cases hx
  subst hG
  exact ev_ret rfl rfl
def f_L_primary (u : Nat) (a1 : Int32) (a2 : Int32) (S : St) : Option (Int32 × St) :=
  if (f_L_isEnd a1) = 0 then f_L_primary_27 S else (if (f_L_isPath a2) = 0 then f_L_primary_27 S else (if inb a1 2 = true then if (S cEnd_state (ix a1) 0) = (3 : Int32) then (if inb a1 2 = true then some ((1 : Int32), up3 S cEnd_primaryPath (ix a1) 0 a2) else none) else f_L_primary_27 S else none))
theorem t_L_primary (scr : Nat × (Nat → Int32)) (u : Nat) (a1 : Int32) (a2 : Int32) (S T : St) {x : Int32 × St} {o : Option iV × SS} (hx : f_L_primary u a1 a2 S = some x) (hG : (some (vI x.1), (x.2, T)) = o) : E0 scr 2 12 [vR 0 u, vI a1, vI a2] (S, T) o := by
  refine ev_meth (ls := [some (vR 0 u), some (vI a1), some (vI a2)]) rfl rfl rfl ?_
  unfold f_L_primary at hx
  refine ev_steps 1 (c' := (1, [some (vR 0 u), some (vI a1), some (vI a2)], [vI a1])) (h' := (S, T)) rfl ?_
  refine ev_call rfl rfl rfl rfl rfl rfl rfl rfl rfl ((t_L_isEnd scr a1 S T rfl).mono (by decide)) ?_
  refine ev_steps 0 (c' := (4, [some (vR 0 u), some (vI a1), some (vI a2)], [vI (f_L_isEnd a1)])) (h' := (S, T)) rfl ?_
  refine ev_if_eq rfl (fun hc => ?_) (fun hc => ?_)
  · rw [if_pos hc] at hx
    exact t_L_primary_27 scr S T _ _ _ hx hG
  · rw [if_neg hc] at hx
    refine ev_steps 1 (c' := (8, [some (vR 0 u), some (vI a1), some (vI a2)], [vI a2])) (h' := (S, T)) rfl ?_
    refine ev_call rfl rfl rfl rfl rfl rfl rfl rfl rfl ((t_L_isPath scr a2 S T rfl).mono (by decide)) ?_
    refine ev_steps 0 (c' := (11, [some (vR 0 u), some (vI a1), some (vI a2)], [vI (f_L_isPath a2)])) (h' := (S, T)) rfl ?_
    refine ev_if_eq rfl (fun hc => ?_) (fun hc => ?_)
    · rw [if_pos hc] at hx
      exact t_L_primary_27 scr S T _ _ _ hx hG
    · rw [if_neg hc] at hx
      refine ev_steps 3 (c' := (19, [some (vR 0 u), some (vI a1), some (vI a2)], [vI a1, vR 64 u])) (h' := (S, T)) rfl ?_
      obtain ⟨hg, hx⟩ := ifg hx
      refine ev_aald2 rfl rfl hg ?_
      refine ev_steps 2 (c' := (24, [some (vR 0 u), some (vI a1), some (vI a2)], [vI (3 : Int32), vI (S cEnd_state (ix a1) 0)])) (h' := (S, T)) rfl ?_
      refine ev_icmp_eq rfl (fun hc => ?_) (fun hc => ?_)
      · rw [if_pos hc] at hx
        refine ev_steps 3 (c' := (34, [some (vR 0 u), some (vI a1), some (vI a2)], [vI a1, vR 64 u])) (h' := (S, T)) rfl ?_
        obtain ⟨hg, hx⟩ := ifg hx
        refine ev_aald2 rfl rfl hg ?_
        refine ev_steps 3 (c' := (40, [some (vR 0 u), some (vI a1), some (vI a2)], [vI (1 : Int32)])) (h' := (up3 S cEnd_primaryPath (ix a1) 0 a2, T)) rfl ?_
        cases hx
        subst hG
        exact ev_ret rfl rfl
      · rw [if_neg hc] at hx
        exact t_L_primary_27 scr S T _ _ _ hx hG
-- End_tell
def f_End_tell (u : Nat) (a1 : Int32) (S : St) : Option (Int32) :=
  if a1 = (0 : Int32) then some (S cEnd_state u 0) else (if a1 = (1 : Int32) then some (S cEnd_ownTag u 0) else (if a1 = (2 : Int32) then some (S cEnd_otherTag u 0) else (if a1 = (3 : Int32) then some (S cEnd_report u 0) else (if a1 = (4 : Int32) then some (f_Outbox_count u S) else (if a1 = (5 : Int32) then (if (S cEnd_state u 0) = (3 : Int32) then some (S cInbox_latest u 0) else some (0 : Int32)) else (if a1 = (6 : Int32) then some (f_Inbox_kept u S) else (if a1 = (7 : Int32) then (if (S cEnd_state u 0) = (3 : Int32) then some (S cEnd_allErrors u 0) else some (0 : Int32)) else (if a1 = (8 : Int32) then (if (S cEnd_state u 0) = (3 : Int32) then some (S cOutbox_window u 0) else some (0 : Int32)) else (if a1 = (9 : Int32) then (if (S cEnd_state u 0) = (3 : Int32) then (bd (f_End_pathToUse u S) (fun r201 => some r201)) else some (0 : Int32)) else some (-1 : Int32))))))))))
theorem t_End_tell (scr : Nat × (Nat → Int32)) (u : Nat) (a1 : Int32) (S T : St) {x : Int32} {o : Option iV × SS} (hx : f_End_tell u a1 S = some x) (hG : (some (vI x), (S, T)) = o) : E0 scr 2 89 [vR 3 u, vI a1] (S, T) o := by
  refine ev_meth (ls := [some (vR 3 u), some (vI a1)]) rfl rfl rfl ?_
  unfold f_End_tell at hx
  refine ev_steps 1 (c' := (1, [some (vR 3 u), some (vI a1)], [vI a1])) (h' := (S, T)) rfl ?_
  by_cases hc : a1 = (0 : Int32)
  · rw [if_pos hc] at hx
    refine ev_swk (t := 56) rfl hc (by decide) ?_
    refine ev_steps 2 (c' := (60, [some (vR 3 u), some (vI a1)], [vI (S cEnd_state u 0)])) (h' := (S, T)) rfl ?_
    cases hx
    subst hG
    exact ev_ret rfl rfl
  rw [if_neg hc] at hx
  have hn0 := hc
  clear hc
  by_cases hc : a1 = (1 : Int32)
  · rw [if_pos hc] at hx
    refine ev_swk (t := 61) rfl hc (by decide) ?_
    refine ev_steps 2 (c' := (65, [some (vR 3 u), some (vI a1)], [vI (S cEnd_ownTag u 0)])) (h' := (S, T)) rfl ?_
    cases hx
    subst hG
    exact ev_ret rfl rfl
  rw [if_neg hc] at hx
  have hn1 := hc
  clear hc
  by_cases hc : a1 = (2 : Int32)
  · rw [if_pos hc] at hx
    refine ev_swk (t := 66) rfl hc (by decide) ?_
    refine ev_steps 2 (c' := (70, [some (vR 3 u), some (vI a1)], [vI (S cEnd_otherTag u 0)])) (h' := (S, T)) rfl ?_
    cases hx
    subst hG
    exact ev_ret rfl rfl
  rw [if_neg hc] at hx
  have hn2 := hc
  clear hc
  by_cases hc : a1 = (3 : Int32)
  · rw [if_pos hc] at hx
    refine ev_swk (t := 71) rfl hc (by decide) ?_
    refine ev_steps 2 (c' := (75, [some (vR 3 u), some (vI a1)], [vI (S cEnd_report u 0)])) (h' := (S, T)) rfl ?_
    cases hx
    subst hG
    exact ev_ret rfl rfl
  rw [if_neg hc] at hx
  have hn3 := hc
  clear hc
  by_cases hc : a1 = (4 : Int32)
  · rw [if_pos hc] at hx
    refine ev_swk (t := 76) rfl hc (by decide) ?_
    refine ev_steps 2 (c' := (80, [some (vR 3 u), some (vI a1)], [vR 5 u])) (h' := (S, T)) rfl ?_
    refine ev_call rfl rfl rfl rfl rfl rfl rfl rfl rfl ((t_Outbox_count scr u S T rfl).mono (by decide)) ?_
    refine ev_steps 0 (c' := (83, [some (vR 3 u), some (vI a1)], [vI (f_Outbox_count u S)])) (h' := (S, T)) rfl ?_
    cases hx
    subst hG
    exact ev_ret rfl rfl
  rw [if_neg hc] at hx
  have hn4 := hc
  clear hc
  by_cases hc : a1 = (5 : Int32)
  · rw [if_pos hc] at hx
    refine ev_swk (t := 84) rfl hc (by decide) ?_
    refine ev_steps 3 (c' := (89, [some (vR 3 u), some (vI a1)], [vI (3 : Int32), vI (S cEnd_state u 0)])) (h' := (S, T)) rfl ?_
    refine ev_icmp_ne rfl (fun hc => ?_) (fun hc => ?_)
    · rw [if_pos hc] at hx
      refine ev_steps 4 (c' := (103, [some (vR 3 u), some (vI a1)], [vI (S cInbox_latest u 0)])) (h' := (S, T)) rfl ?_
      cases hx
      subst hG
      exact ev_ret rfl rfl
    · rw [if_neg hc] at hx
      refine ev_steps 1 (c' := (103, [some (vR 3 u), some (vI a1)], [vI (0 : Int32)])) (h' := (S, T)) rfl ?_
      cases hx
      subst hG
      exact ev_ret rfl rfl
  rw [if_neg hc] at hx
  have hn5 := hc
  clear hc
  by_cases hc : a1 = (6 : Int32)
  · rw [if_pos hc] at hx
    refine ev_swk (t := 104) rfl hc (by decide) ?_
    refine ev_steps 2 (c' := (108, [some (vR 3 u), some (vI a1)], [vR 4 u])) (h' := (S, T)) rfl ?_
    refine ev_call rfl rfl rfl rfl rfl rfl rfl rfl rfl ((t_Inbox_kept scr u S T rfl).mono (by decide)) ?_
    refine ev_steps 0 (c' := (111, [some (vR 3 u), some (vI a1)], [vI (f_Inbox_kept u S)])) (h' := (S, T)) rfl ?_
    cases hx
    subst hG
    exact ev_ret rfl rfl
  rw [if_neg hc] at hx
  have hn6 := hc
  clear hc
  by_cases hc : a1 = (7 : Int32)
  · rw [if_pos hc] at hx
    refine ev_swk (t := 112) rfl hc (by decide) ?_
    refine ev_steps 3 (c' := (117, [some (vR 3 u), some (vI a1)], [vI (3 : Int32), vI (S cEnd_state u 0)])) (h' := (S, T)) rfl ?_
    refine ev_icmp_ne rfl (fun hc => ?_) (fun hc => ?_)
    · rw [if_pos hc] at hx
      refine ev_steps 3 (c' := (128, [some (vR 3 u), some (vI a1)], [vI (S cEnd_allErrors u 0)])) (h' := (S, T)) rfl ?_
      cases hx
      subst hG
      exact ev_ret rfl rfl
    · rw [if_neg hc] at hx
      refine ev_steps 1 (c' := (128, [some (vR 3 u), some (vI a1)], [vI (0 : Int32)])) (h' := (S, T)) rfl ?_
      cases hx
      subst hG
      exact ev_ret rfl rfl
  rw [if_neg hc] at hx
  have hn7 := hc
  clear hc
  by_cases hc : a1 = (8 : Int32)
  · rw [if_pos hc] at hx
    refine ev_swk (t := 129) rfl hc (by decide) ?_
    refine ev_steps 3 (c' := (134, [some (vR 3 u), some (vI a1)], [vI (3 : Int32), vI (S cEnd_state u 0)])) (h' := (S, T)) rfl ?_
    refine ev_icmp_ne rfl (fun hc => ?_) (fun hc => ?_)
    · rw [if_pos hc] at hx
      refine ev_steps 4 (c' := (148, [some (vR 3 u), some (vI a1)], [vI (S cOutbox_window u 0)])) (h' := (S, T)) rfl ?_
      cases hx
      subst hG
      exact ev_ret rfl rfl
    · rw [if_neg hc] at hx
      refine ev_steps 1 (c' := (148, [some (vR 3 u), some (vI a1)], [vI (0 : Int32)])) (h' := (S, T)) rfl ?_
      cases hx
      subst hG
      exact ev_ret rfl rfl
  rw [if_neg hc] at hx
  have hn8 := hc
  clear hc
  by_cases hc : a1 = (9 : Int32)
  · rw [if_pos hc] at hx
    refine ev_swk (t := 149) rfl hc (by decide) ?_
    refine ev_steps 3 (c' := (154, [some (vR 3 u), some (vI a1)], [vI (3 : Int32), vI (S cEnd_state u 0)])) (h' := (S, T)) rfl ?_
    refine ev_icmp_ne rfl (fun hc => ?_) (fun hc => ?_)
    · rw [if_pos hc] at hx
      refine ev_steps 1 (c' := (158, [some (vR 3 u), some (vI a1)], [vR 3 u])) (h' := (S, T)) rfl ?_
      obtain ⟨r201, hc, hx⟩ := bd_some hx
      refine ev_call rfl rfl rfl rfl rfl rfl rfl rfl rfl ((t_End_pathToUse scr u S T hc rfl).mono (by decide)) ?_
      refine ev_steps 1 (c' := (165, [some (vR 3 u), some (vI a1)], [vI r201])) (h' := (S, T)) rfl ?_
      cases hx
      subst hG
      exact ev_ret rfl rfl
    · rw [if_neg hc] at hx
      refine ev_steps 1 (c' := (165, [some (vR 3 u), some (vI a1)], [vI (0 : Int32)])) (h' := (S, T)) rfl ?_
      cases hx
      subst hG
      exact ev_ret rfl rfl
  rw [if_neg hc] at hx
  have hn9 := hc
  clear hc
  refine ev_swd rfl (And.intro (sw_ne hn0 rfl) (And.intro (sw_ne hn1 rfl) (And.intro (sw_ne hn2 rfl) (And.intro (sw_ne hn3 rfl) (And.intro (sw_ne hn4 rfl) (And.intro (sw_ne hn5 rfl) (And.intro (sw_ne hn6 rfl) (And.intro (sw_ne hn7 rfl) (And.intro (sw_ne hn8 rfl) (And.intro (sw_ne hn9 rfl) (True.intro))))))))))) ?_
  refine ev_steps 1 (c' := (167, [some (vR 3 u), some (vI a1)], [vI (-1 : Int32)])) (h' := (S, T)) rfl ?_
  cases hx
  subst hG
  exact ev_ret rfl rfl
