/-! Methods as functions on the store, printed by a program. -/
-- M_read
def f_M_read_14 (S : St) : Option (Int32 × St) :=
  some ((0 : Int32), S)
theorem t_M_read_14 (scr : Nat × (Nat → Int32)) (S : St) (T : St) (d0 d1 d2 d3 d4 : Option iV) {x : Int32 × St} {o : Option iV × SS} (hx : f_M_read_14 S = some x) (hG : (fun x => (some (vI x.1), (T, x.2)) = o) x) : EB scr 1 1 1 cd_M_read (14, [d0, d1, d2, d3, d4], []) (T, S) o := by
  unfold f_M_read_14 at hx
  try dsimp only at hG
  refine ev_steps 1 (c' := (15, [_, _, _, _, _], [vI (0 : Int32)])) (h' := (T, S)) rfl ?_
  cases hx
  subst hG
  exact ev_ret rfl rfl
def f_M_read (u : Nat) (a1 : Int32) (a2 : Int32) (S : St) : Option (Int32 × St) :=
  if (f_M_isTwo a1) = 0 then f_M_read_14 S else (if (f_M_isStream a2) = 0 then f_M_read_14 S else (if inb (((3 : Int32) * a1) + a2) 6 = true then if inb (((3 : Int32) * a1) + a2) 6 = true then if (S cM_firstReady u (ix (((3 : Int32) * a1) + a2))) = (S cM_readies u (ix (((3 : Int32) * a1) + a2))) then some ((0 : Int32), S) else (if inb (((3 : Int32) * a1) + a2) 6 = true then if inb (((3 : Int32) * a1) + a2) 6 = true then if inb (((3 : Int32) * a1) + a2) 6 = true then if inb a1 2 = true then if inb (((512 : Int32) * (((3 : Int32) * a1) + a2)) + (S cM_firstReady u (ix (((3 : Int32) * a1) + a2)))) 3072 = true then if inb a1 2 = true then if inb (((512 : Int32) * (((3 : Int32) * a1) + a2)) + (S cM_firstReady u (ix (((3 : Int32) * a1) + a2)))) 3072 = true then some (S cM_firstWord u (ix (((512 : Int32) * (((3 : Int32) * a1) + a2)) + (S cM_firstReady u (ix (((3 : Int32) * a1) + a2))))), up3 (up3 S cM_firstReady u (ix (((3 : Int32) * a1) + a2)) ((S cM_firstReady u (ix (((3 : Int32) * a1) + a2))) + (1 : Int32))) cM_kept u (ix a1) ((S cM_kept u (ix a1)) - (S cM_words u (ix (((512 : Int32) * (((3 : Int32) * a1) + a2)) + (S cM_firstReady u (ix (((3 : Int32) * a1) + a2)))))))) else none else none else none else none else none else none else none) else none else none))
theorem t_M_read (scr : Nat × (Nat → Int32)) (u : Nat) (a1 : Int32) (a2 : Int32) (S T : St) {x : Int32 × St} {o : Option iV × SS} (hx : f_M_read u a1 a2 S = some x) (hG : (some (vI x.1), (T, x.2)) = o) : E0 scr 2 63 [vR 1 u, vI a1, vI a2] (T, S) o := by
  refine ev_meth (ls := [some (vR 1 u), some (vI a1), some (vI a2), none, none]) rfl rfl rfl ?_
  unfold f_M_read at hx
  refine ev_steps 1 (c' := (1, [some (vR 1 u), some (vI a1), some (vI a2), none, none], [vI a1])) (h' := (T, S)) rfl ?_
  refine ev_call rfl rfl rfl rfl rfl rfl rfl rfl rfl ((t_M_isTwo scr a1 S T rfl).mono (by decide)) ?_
  refine ev_steps 0 (c' := (4, [some (vR 1 u), some (vI a1), some (vI a2), none, none], [vI (f_M_isTwo a1)])) (h' := (T, S)) rfl ?_
  refine ev_if_eq rfl (fun hc => ?_) (fun hc => ?_)
  · rw [if_pos hc] at hx
    exact t_M_read_14 scr S T _ _ _ _ _ hx hG
  · rw [if_neg hc] at hx
    refine ev_steps 1 (c' := (8, [some (vR 1 u), some (vI a1), some (vI a2), none, none], [vI a2])) (h' := (T, S)) rfl ?_
    refine ev_call rfl rfl rfl rfl rfl rfl rfl rfl rfl ((t_M_isStream scr a2 S T rfl).mono (by decide)) ?_
    refine ev_steps 0 (c' := (11, [some (vR 1 u), some (vI a1), some (vI a2), none, none], [vI (f_M_isStream a2)])) (h' := (T, S)) rfl ?_
    refine ev_if_ne rfl (fun hc => ?_) (fun hc => ?_)
    · rw [if_pos hc] at hx
      exact t_M_read_14 scr S T _ _ _ _ _ hx hG
    · rw [if_neg hc] at hx
      refine ev_steps 9 (c' := (27, [some (vR 1 u), some (vI a1), some (vI a2), some (vI (((3 : Int32) * a1) + a2)), none], [vI (((3 : Int32) * a1) + a2), vR 121 u])) (h' := (T, S)) rfl ?_
      obtain ⟨hg, hx⟩ := ifg hx
      refine ev_iald rfl rfl rfl hg ?_
      refine ev_steps 3 (c' := (33, [some (vR 1 u), some (vI a1), some (vI a2), some (vI (((3 : Int32) * a1) + a2)), none], [vI (((3 : Int32) * a1) + a2), vR 120 u, vI (S cM_firstReady u (ix (((3 : Int32) * a1) + a2)))])) (h' := (T, S)) rfl ?_
      obtain ⟨hg, hx⟩ := ifg hx
      refine ev_iald rfl rfl rfl hg ?_
      refine ev_steps 0 (c' := (34, [some (vR 1 u), some (vI a1), some (vI a2), some (vI (((3 : Int32) * a1) + a2)), none], [vI (S cM_readies u (ix (((3 : Int32) * a1) + a2))), vI (S cM_firstReady u (ix (((3 : Int32) * a1) + a2)))])) (h' := (T, S)) rfl ?_
      refine ev_icmp_ne rfl (fun hc => ?_) (fun hc => ?_)
      · rw [if_pos hc] at hx
        refine ev_steps 1 (c' := (38, [some (vR 1 u), some (vI a1), some (vI a2), some (vI (((3 : Int32) * a1) + a2)), none], [vI (0 : Int32)])) (h' := (T, S)) rfl ?_
        cases hx
        subst hG
        exact ev_ret rfl rfl
      · rw [if_neg hc] at hx
        refine ev_steps 6 (c' := (49, [some (vR 1 u), some (vI a1), some (vI a2), some (vI (((3 : Int32) * a1) + a2)), none], [vI (((3 : Int32) * a1) + a2), vR 121 u, vI ((512 : Int32) * (((3 : Int32) * a1) + a2))])) (h' := (T, S)) rfl ?_
        obtain ⟨hg, hx⟩ := ifg hx
        refine ev_iald rfl rfl rfl hg ?_
        refine ev_steps 6 (c' := (59, [some (vR 1 u), some (vI a1), some (vI a2), some (vI (((3 : Int32) * a1) + a2)), some (vI (((512 : Int32) * (((3 : Int32) * a1) + a2)) + (S cM_firstReady u (ix (((3 : Int32) * a1) + a2)))))], [vI (((3 : Int32) * a1) + a2), vR 121 u, vI (((3 : Int32) * a1) + a2), vR 121 u])) (h' := (T, S)) rfl ?_
        obtain ⟨hg, hx⟩ := ifg hx
        refine ev_iald rfl rfl rfl hg ?_
        refine ev_steps 2 (c' := (62, [some (vR 1 u), some (vI a1), some (vI a2), some (vI (((3 : Int32) * a1) + a2)), some (vI (((512 : Int32) * (((3 : Int32) * a1) + a2)) + (S cM_firstReady u (ix (((3 : Int32) * a1) + a2)))))], [vI ((S cM_firstReady u (ix (((3 : Int32) * a1) + a2))) + (1 : Int32)), vI (((3 : Int32) * a1) + a2), vR 121 u])) (h' := (T, S)) rfl ?_
        obtain ⟨hg, hx⟩ := ifg hx
        refine ev_iast rfl rfl hg ?_
        refine ev_steps 4 (c' := (69, [some (vR 1 u), some (vI a1), some (vI a2), some (vI (((3 : Int32) * a1) + a2)), some (vI (((512 : Int32) * (((3 : Int32) * a1) + a2)) + (S cM_firstReady u (ix (((3 : Int32) * a1) + a2)))))], [vI a1, vR 119 u, vI a1, vR 119 u])) (h' := (T, up3 S cM_firstReady u (ix (((3 : Int32) * a1) + a2)) ((S cM_firstReady u (ix (((3 : Int32) * a1) + a2))) + (1 : Int32)))) rfl ?_
        obtain ⟨hg, hx⟩ := ifg hx
        refine ev_iald rfl rfl rfl hg ?_
        refine ev_steps 3 (c' := (76, [some (vR 1 u), some (vI a1), some (vI a2), some (vI (((3 : Int32) * a1) + a2)), some (vI (((512 : Int32) * (((3 : Int32) * a1) + a2)) + (S cM_firstReady u (ix (((3 : Int32) * a1) + a2)))))], [vI (((512 : Int32) * (((3 : Int32) * a1) + a2)) + (S cM_firstReady u (ix (((3 : Int32) * a1) + a2)))), vR 123 u, vI (S cM_kept u (ix a1)), vI a1, vR 119 u])) (h' := (T, up3 S cM_firstReady u (ix (((3 : Int32) * a1) + a2)) ((S cM_firstReady u (ix (((3 : Int32) * a1) + a2))) + (1 : Int32)))) rfl ?_
        obtain ⟨hg, hx⟩ := ifg hx
        refine ev_iald rfl rfl rfl hg ?_
        refine ev_steps 1 (c' := (78, [some (vR 1 u), some (vI a1), some (vI a2), some (vI (((3 : Int32) * a1) + a2)), some (vI (((512 : Int32) * (((3 : Int32) * a1) + a2)) + (S cM_firstReady u (ix (((3 : Int32) * a1) + a2)))))], [vI ((S cM_kept u (ix a1)) - (S cM_words u (ix (((512 : Int32) * (((3 : Int32) * a1) + a2)) + (S cM_firstReady u (ix (((3 : Int32) * a1) + a2))))))), vI a1, vR 119 u])) (h' := (T, up3 S cM_firstReady u (ix (((3 : Int32) * a1) + a2)) ((S cM_firstReady u (ix (((3 : Int32) * a1) + a2))) + (1 : Int32)))) rfl ?_
        obtain ⟨hg, hx⟩ := ifg hx
        refine ev_iast rfl rfl hg ?_
        refine ev_steps 3 (c' := (85, [some (vR 1 u), some (vI a1), some (vI a2), some (vI (((3 : Int32) * a1) + a2)), some (vI (((512 : Int32) * (((3 : Int32) * a1) + a2)) + (S cM_firstReady u (ix (((3 : Int32) * a1) + a2)))))], [vI (((512 : Int32) * (((3 : Int32) * a1) + a2)) + (S cM_firstReady u (ix (((3 : Int32) * a1) + a2)))), vR 122 u])) (h' := (T, up3 (up3 S cM_firstReady u (ix (((3 : Int32) * a1) + a2)) ((S cM_firstReady u (ix (((3 : Int32) * a1) + a2))) + (1 : Int32))) cM_kept u (ix a1) ((S cM_kept u (ix a1)) - (S cM_words u (ix (((512 : Int32) * (((3 : Int32) * a1) + a2)) + (S cM_firstReady u (ix (((3 : Int32) * a1) + a2))))))))) rfl ?_
        obtain ⟨hg, hx⟩ := ifg hx
        refine ev_iald rfl rfl rfl hg ?_
        refine ev_steps 0 (c' := (86, [some (vR 1 u), some (vI a1), some (vI a2), some (vI (((3 : Int32) * a1) + a2)), some (vI (((512 : Int32) * (((3 : Int32) * a1) + a2)) + (S cM_firstReady u (ix (((3 : Int32) * a1) + a2)))))], [vI (S cM_firstWord u (ix (((512 : Int32) * (((3 : Int32) * a1) + a2)) + (S cM_firstReady u (ix (((3 : Int32) * a1) + a2))))))])) (h' := (T, up3 (up3 S cM_firstReady u (ix (((3 : Int32) * a1) + a2)) ((S cM_firstReady u (ix (((3 : Int32) * a1) + a2))) + (1 : Int32))) cM_kept u (ix a1) ((S cM_kept u (ix a1)) - (S cM_words u (ix (((512 : Int32) * (((3 : Int32) * a1) + a2)) + (S cM_firstReady u (ix (((3 : Int32) * a1) + a2))))))))) rfl ?_
        cases hx
        subst hG
        exact ev_ret rfl rfl
-- M_ready
def f_M_ready_38 (S : St) : Option (Int32) :=
  some (-1 : Int32)
theorem t_M_ready_38 (scr : Nat × (Nat → Int32)) (S : St) (T : St) (d0 d1 d2 : Option iV) {x : Int32} {o : Option iV × SS} (hx : f_M_ready_38 S = some x) (hG : (fun x => (some (vI x), (T, S)) = o) x) : EB scr 1 1 1 cd_M_ready (38, [d0, d1, d2], []) (T, S) o := by
  unfold f_M_ready_38 at hx
  try dsimp only at hG
  refine ev_steps 1 (c' := (39, [_, _, _], [vI (-1 : Int32)])) (h' := (T, S)) rfl ?_
  cases hx
  subst hG
  exact ev_ret rfl rfl
def f_M_ready (u : Nat) (a1 : Int32) (a2 : Int32) (S : St) : Option (Int32) :=
  if (f_M_isTwo a1) = 0 then f_M_ready_38 S else (if (f_M_isStream a2) = 0 then f_M_ready_38 S else (if inb (((3 : Int32) * a1) + a2) 6 = true then if inb (((3 : Int32) * a1) + a2) 6 = true then some ((S cM_readies u (ix (((3 : Int32) * a1) + a2))) - (S cM_firstReady u (ix (((3 : Int32) * a1) + a2)))) else none else none))
theorem t_M_ready (scr : Nat × (Nat → Int32)) (u : Nat) (a1 : Int32) (a2 : Int32) (S T : St) {x : Int32} {o : Option iV × SS} (hx : f_M_ready u a1 a2 S = some x) (hG : (some (vI x), (T, S)) = o) : E0 scr 2 64 [vR 1 u, vI a1, vI a2] (T, S) o := by
  refine ev_meth (ls := [some (vR 1 u), some (vI a1), some (vI a2)]) rfl rfl rfl ?_
  unfold f_M_ready at hx
  refine ev_steps 1 (c' := (1, [some (vR 1 u), some (vI a1), some (vI a2)], [vI a1])) (h' := (T, S)) rfl ?_
  refine ev_call rfl rfl rfl rfl rfl rfl rfl rfl rfl ((t_M_isTwo scr a1 S T rfl).mono (by decide)) ?_
  refine ev_steps 0 (c' := (4, [some (vR 1 u), some (vI a1), some (vI a2)], [vI (f_M_isTwo a1)])) (h' := (T, S)) rfl ?_
  refine ev_if_eq rfl (fun hc => ?_) (fun hc => ?_)
  · rw [if_pos hc] at hx
    exact t_M_ready_38 scr S T _ _ _ hx hG
  · rw [if_neg hc] at hx
    refine ev_steps 1 (c' := (8, [some (vR 1 u), some (vI a1), some (vI a2)], [vI a2])) (h' := (T, S)) rfl ?_
    refine ev_call rfl rfl rfl rfl rfl rfl rfl rfl rfl ((t_M_isStream scr a2 S T rfl).mono (by decide)) ?_
    refine ev_steps 0 (c' := (11, [some (vR 1 u), some (vI a1), some (vI a2)], [vI (f_M_isStream a2)])) (h' := (T, S)) rfl ?_
    refine ev_if_eq rfl (fun hc => ?_) (fun hc => ?_)
    · rw [if_pos hc] at hx
      exact t_M_ready_38 scr S T _ _ _ hx hG
    · rw [if_neg hc] at hx
      refine ev_steps 7 (c' := (23, [some (vR 1 u), some (vI a1), some (vI a2)], [vI (((3 : Int32) * a1) + a2), vR 120 u])) (h' := (T, S)) rfl ?_
      obtain ⟨hg, hx⟩ := ifg hx
      refine ev_iald rfl rfl rfl hg ?_
      refine ev_steps 7 (c' := (33, [some (vR 1 u), some (vI a1), some (vI a2)], [vI (((3 : Int32) * a1) + a2), vR 121 u, vI (S cM_readies u (ix (((3 : Int32) * a1) + a2)))])) (h' := (T, S)) rfl ?_
      obtain ⟨hg, hx⟩ := ifg hx
      refine ev_iald rfl rfl rfl hg ?_
      refine ev_steps 2 (c' := (39, [some (vR 1 u), some (vI a1), some (vI a2)], [vI ((S cM_readies u (ix (((3 : Int32) * a1) + a2))) - (S cM_firstReady u (ix (((3 : Int32) * a1) + a2))))])) (h' := (T, S)) rfl ?_
      cases hx
      subst hG
      exact ev_ret rfl rfl
-- M_length
def f_M_length_14 (S : St) : Option (Int32) :=
  some (0 : Int32)
theorem t_M_length_14 (scr : Nat × (Nat → Int32)) (S : St) (T : St) (d0 d1 d2 d3 : Option iV) {x : Int32} {o : Option iV × SS} (hx : f_M_length_14 S = some x) (hG : (fun x => (some (vI x), (T, S)) = o) x) : EB scr 1 1 1 cd_M_length (14, [d0, d1, d2, d3], []) (T, S) o := by
  unfold f_M_length_14 at hx
  try dsimp only at hG
  refine ev_steps 1 (c' := (15, [_, _, _, _], [vI (0 : Int32)])) (h' := (T, S)) rfl ?_
  cases hx
  subst hG
  exact ev_ret rfl rfl
def f_M_length (u : Nat) (a1 : Int32) (a2 : Int32) (S : St) : Option (Int32) :=
  if (f_M_isTwo a1) = 0 then f_M_length_14 S else (if (f_M_isStream a2) = 0 then f_M_length_14 S else (if inb (((3 : Int32) * a1) + a2) 6 = true then if inb (((3 : Int32) * a1) + a2) 6 = true then if (S cM_firstReady u (ix (((3 : Int32) * a1) + a2))) = (S cM_readies u (ix (((3 : Int32) * a1) + a2))) then some (0 : Int32) else (if inb (((3 : Int32) * a1) + a2) 6 = true then if inb (((512 : Int32) * (((3 : Int32) * a1) + a2)) + (S cM_firstReady u (ix (((3 : Int32) * a1) + a2)))) 3072 = true then some (S cM_words u (ix (((512 : Int32) * (((3 : Int32) * a1) + a2)) + (S cM_firstReady u (ix (((3 : Int32) * a1) + a2)))))) else none else none) else none else none))
theorem t_M_length (scr : Nat × (Nat → Int32)) (u : Nat) (a1 : Int32) (a2 : Int32) (S T : St) {x : Int32} {o : Option iV × SS} (hx : f_M_length u a1 a2 S = some x) (hG : (some (vI x), (T, S)) = o) : E0 scr 2 65 [vR 1 u, vI a1, vI a2] (T, S) o := by
  refine ev_meth (ls := [some (vR 1 u), some (vI a1), some (vI a2), none]) rfl rfl rfl ?_
  unfold f_M_length at hx
  refine ev_steps 1 (c' := (1, [some (vR 1 u), some (vI a1), some (vI a2), none], [vI a1])) (h' := (T, S)) rfl ?_
  refine ev_call rfl rfl rfl rfl rfl rfl rfl rfl rfl ((t_M_isTwo scr a1 S T rfl).mono (by decide)) ?_
  refine ev_steps 0 (c' := (4, [some (vR 1 u), some (vI a1), some (vI a2), none], [vI (f_M_isTwo a1)])) (h' := (T, S)) rfl ?_
  refine ev_if_eq rfl (fun hc => ?_) (fun hc => ?_)
  · rw [if_pos hc] at hx
    exact t_M_length_14 scr S T _ _ _ _ hx hG
  · rw [if_neg hc] at hx
    refine ev_steps 1 (c' := (8, [some (vR 1 u), some (vI a1), some (vI a2), none], [vI a2])) (h' := (T, S)) rfl ?_
    refine ev_call rfl rfl rfl rfl rfl rfl rfl rfl rfl ((t_M_isStream scr a2 S T rfl).mono (by decide)) ?_
    refine ev_steps 0 (c' := (11, [some (vR 1 u), some (vI a1), some (vI a2), none], [vI (f_M_isStream a2)])) (h' := (T, S)) rfl ?_
    refine ev_if_ne rfl (fun hc => ?_) (fun hc => ?_)
    · rw [if_pos hc] at hx
      exact t_M_length_14 scr S T _ _ _ _ hx hG
    · rw [if_neg hc] at hx
      refine ev_steps 9 (c' := (27, [some (vR 1 u), some (vI a1), some (vI a2), some (vI (((3 : Int32) * a1) + a2))], [vI (((3 : Int32) * a1) + a2), vR 121 u])) (h' := (T, S)) rfl ?_
      obtain ⟨hg, hx⟩ := ifg hx
      refine ev_iald rfl rfl rfl hg ?_
      refine ev_steps 3 (c' := (33, [some (vR 1 u), some (vI a1), some (vI a2), some (vI (((3 : Int32) * a1) + a2))], [vI (((3 : Int32) * a1) + a2), vR 120 u, vI (S cM_firstReady u (ix (((3 : Int32) * a1) + a2)))])) (h' := (T, S)) rfl ?_
      obtain ⟨hg, hx⟩ := ifg hx
      refine ev_iald rfl rfl rfl hg ?_
      refine ev_steps 0 (c' := (34, [some (vR 1 u), some (vI a1), some (vI a2), some (vI (((3 : Int32) * a1) + a2))], [vI (S cM_readies u (ix (((3 : Int32) * a1) + a2))), vI (S cM_firstReady u (ix (((3 : Int32) * a1) + a2)))])) (h' := (T, S)) rfl ?_
      refine ev_icmp_ne rfl (fun hc => ?_) (fun hc => ?_)
      · rw [if_pos hc] at hx
        refine ev_steps 2 (c' := (58, [some (vR 1 u), some (vI a1), some (vI a2), some (vI (((3 : Int32) * a1) + a2))], [vI (0 : Int32)])) (h' := (T, S)) rfl ?_
        cases hx
        subst hG
        exact ev_ret rfl rfl
      · rw [if_neg hc] at hx
        refine ev_steps 8 (c' := (55, [some (vR 1 u), some (vI a1), some (vI a2), some (vI (((3 : Int32) * a1) + a2))], [vI (((3 : Int32) * a1) + a2), vR 121 u, vI ((512 : Int32) * (((3 : Int32) * a1) + a2)), vR 123 u])) (h' := (T, S)) rfl ?_
        obtain ⟨hg, hx⟩ := ifg hx
        refine ev_iald rfl rfl rfl hg ?_
        refine ev_steps 1 (c' := (57, [some (vR 1 u), some (vI a1), some (vI a2), some (vI (((3 : Int32) * a1) + a2))], [vI (((512 : Int32) * (((3 : Int32) * a1) + a2)) + (S cM_firstReady u (ix (((3 : Int32) * a1) + a2)))), vR 123 u])) (h' := (T, S)) rfl ?_
        obtain ⟨hg, hx⟩ := ifg hx
        refine ev_iald rfl rfl rfl hg ?_
        refine ev_steps 0 (c' := (58, [some (vR 1 u), some (vI a1), some (vI a2), some (vI (((3 : Int32) * a1) + a2))], [vI (S cM_words u (ix (((512 : Int32) * (((3 : Int32) * a1) + a2)) + (S cM_firstReady u (ix (((3 : Int32) * a1) + a2))))))])) (h' := (T, S)) rfl ?_
        cases hx
        subst hG
        exact ev_ret rfl rfl
-- M_forge
def f_M_forge_47 (S : St) : Option (Int32 × St) :=
  some ((0 : Int32), S)
theorem t_M_forge_47 (scr : Nat × (Nat → Int32)) (S : St) (T : St) (d0 d1 d2 d3 d4 d5 d6 d7 : Option iV) {x : Int32 × St} {o : Option iV × SS} (hx : f_M_forge_47 S = some x) (hG : (fun x => (some (vI x.1), (T, x.2)) = o) x) : EB scr 1 1 2 cd_M_forge (47, [d0, d1, d2, d3, d4, d5, d6, d7], []) (T, S) o := by
  unfold f_M_forge_47 at hx
  try dsimp only at hG
  refine ev_steps 1 (c' := (48, [_, _, _, _, _, _, _, _], [vI (0 : Int32)])) (h' := (T, S)) rfl ?_
  cases hx
  subst hG
  exact ev_ret rfl rfl
def f_M_forge_109 (S : St) : Option (Int32 × St) :=
  some ((1 : Int32), S)
theorem t_M_forge_109 (scr : Nat × (Nat → Int32)) (S : St) (T : St) (d0 d1 d2 d3 d4 d5 d6 d7 : Option iV) {x : Int32 × St} {o : Option iV × SS} (hx : f_M_forge_109 S = some x) (hG : (fun x => (some (vI x.1), (T, x.2)) = o) x) : EB scr 1 1 2 cd_M_forge (109, [d0, d1, d2, d3, d4, d5, d6, d7], []) (T, S) o := by
  unfold f_M_forge_109 at hx
  try dsimp only at hG
  refine ev_steps 1 (c' := (110, [_, _, _, _, _, _, _, _], [vI (1 : Int32)])) (h' := (T, S)) rfl ?_
  cases hx
  subst hG
  exact ev_ret rfl rfl
def f_M_forge_85 (l0 : Nat) (l1 : Int32) (l2 : Int32) (l5 : Int32) (l6 : Int32) (l7 : Int32) (s0 : Nat) (s1 : Int32) (s2 : Int32) (s3 : Int32) (s4 : Int32) (s5 : Int32) (s6 : Int32) (S : St) : Option (Int32 × St) :=
  bd (f_M_post s0 s1 s2 s3 s4 s5 s6 S) (fun S306 => if l2 = (2 : Int32) then (bd (f_M_more l0 ((2 : Int32) * ((1 : Int32) - l1)) l5 l6 l7 (0 : Int32) S306) (fun S308 => f_M_forge_109 S308)) else f_M_forge_109 S306)
theorem t_M_forge_85 (scr : Nat × (Nat → Int32)) (l0 : Nat) (l1 : Int32) (l2 : Int32) (l5 : Int32) (l6 : Int32) (l7 : Int32) (s0 : Nat) (s1 : Int32) (s2 : Int32) (s3 : Int32) (s4 : Int32) (s5 : Int32) (s6 : Int32) (S : St) (T : St) (d3 d4 : Option iV) {x : Int32 × St} {o : Option iV × SS} (hx : f_M_forge_85 l0 l1 l2 l5 l6 l7 s0 s1 s2 s3 s4 s5 s6 S = some x) (hG : (fun x => (some (vI x.1), (T, x.2)) = o) x) : EB scr 1 1 2 cd_M_forge (85, [some (vR 1 l0), some (vI l1), some (vI l2), d3, d4, some (vI l5), some (vI l6), some (vI l7)], [vI s6, vI s5, vI s4, vI s3, vI s2, vI s1, vR 1 s0]) (T, S) o := by
  unfold f_M_forge_85 at hx
  try dsimp only at hG
  obtain ⟨S306, hc, hx⟩ := bd_some hx
  refine ev_call rfl rfl rfl rfl rfl rfl rfl rfl rfl ((t_M_post scr s0 s1 s2 s3 s4 s5 s6 S T hc rfl).mono (by decide)) ?_
  refine ev_steps 2 (c' := (90, [some (vR 1 l0), some (vI l1), some (vI l2), _, _, some (vI l5), some (vI l6), some (vI l7)], [vI (2 : Int32), vI l2])) (h' := (T, S306)) rfl ?_
  refine ev_icmp_ne rfl (fun hc => ?_) (fun hc => ?_)
  · rw [if_pos hc] at hx
    refine ev_steps 10 (c' := (106, [some (vR 1 l0), some (vI l1), some (vI l2), _, _, some (vI l5), some (vI l6), some (vI l7)], [vI (0 : Int32), vI l7, vI l6, vI l5, vI ((2 : Int32) * ((1 : Int32) - l1)), vR 1 l0])) (h' := (T, S306)) rfl ?_
    obtain ⟨S308, hc, hx⟩ := bd_some hx
    refine ev_call rfl rfl rfl rfl rfl rfl rfl rfl rfl ((t_M_more scr l0 ((2 : Int32) * ((1 : Int32) - l1)) l5 l6 l7 (0 : Int32) S306 T hc rfl).mono (by decide)) ?_
    refine ev_steps 0 (c' := (109, [some (vR 1 l0), some (vI l1), some (vI l2), _, _, some (vI l5), some (vI l6), some (vI l7)], [])) (h' := (T, S308)) rfl ?_
    exact t_M_forge_109 scr S308 T _ _ _ _ _ _ _ _ hx hG
  · rw [if_neg hc] at hx
    exact t_M_forge_109 scr S306 T _ _ _ _ _ _ _ _ hx hG
def f_M_forge_74 (l0 : Nat) (l1 : Int32) (l2 : Int32) (l4 : Int32) (l5 : Int32) (l6 : Int32) (l7 : Int32) (s0 : Nat) (s1 : Int32) (s2 : Int32) (s3 : Int32) (s4 : Int32) (s5 : Int32) (S : St) : Option (Int32 × St) :=
  if l2 = (2 : Int32) then f_M_forge_85 l0 l1 l2 l5 l6 l7 s0 s1 s2 s3 s4 s5 l4 S else f_M_forge_85 l0 l1 l2 l5 l6 l7 s0 s1 s2 s3 s4 s5 (0 : Int32) S
theorem t_M_forge_74 (scr : Nat × (Nat → Int32)) (l0 : Nat) (l1 : Int32) (l2 : Int32) (l4 : Int32) (l5 : Int32) (l6 : Int32) (l7 : Int32) (s0 : Nat) (s1 : Int32) (s2 : Int32) (s3 : Int32) (s4 : Int32) (s5 : Int32) (S : St) (T : St) (d3 : Option iV) {x : Int32 × St} {o : Option iV × SS} (hx : f_M_forge_74 l0 l1 l2 l4 l5 l6 l7 s0 s1 s2 s3 s4 s5 S = some x) (hG : (fun x => (some (vI x.1), (T, x.2)) = o) x) : EB scr 1 1 2 cd_M_forge (74, [some (vR 1 l0), some (vI l1), some (vI l2), d3, some (vI l4), some (vI l5), some (vI l6), some (vI l7)], [vI s5, vI s4, vI s3, vI s2, vI s1, vR 1 s0]) (T, S) o := by
  unfold f_M_forge_74 at hx
  try dsimp only at hG
  refine ev_steps 2 (c' := (76, [some (vR 1 l0), some (vI l1), some (vI l2), _, some (vI l4), some (vI l5), some (vI l6), some (vI l7)], [vI (2 : Int32), vI l2, vI s5, vI s4, vI s3, vI s2, vI s1, vR 1 s0])) (h' := (T, S)) rfl ?_
  refine ev_icmp_ne rfl (fun hc => ?_) (fun hc => ?_)
  · rw [if_pos hc] at hx
    refine ev_steps 2 (c' := (85, [some (vR 1 l0), some (vI l1), some (vI l2), _, some (vI l4), some (vI l5), some (vI l6), some (vI l7)], [vI l4, vI s5, vI s4, vI s3, vI s2, vI s1, vR 1 s0])) (h' := (T, S)) rfl ?_
    exact t_M_forge_85 scr l0 l1 l2 l5 l6 l7 s0 s1 s2 s3 s4 s5 l4 S T _ _ hx hG
  · rw [if_neg hc] at hx
    refine ev_steps 1 (c' := (85, [some (vR 1 l0), some (vI l1), some (vI l2), _, some (vI l4), some (vI l5), some (vI l6), some (vI l7)], [vI (0 : Int32), vI s5, vI s4, vI s3, vI s2, vI s1, vR 1 s0])) (h' := (T, S)) rfl ?_
    exact t_M_forge_85 scr l0 l1 l2 l5 l6 l7 s0 s1 s2 s3 s4 s5 (0 : Int32) S T _ _ hx hG
def f_M_forge_63 (l0 : Nat) (l1 : Int32) (l2 : Int32) (l4 : Int32) (l5 : Int32) (l6 : Int32) (l7 : Int32) (s0 : Nat) (s1 : Int32) (s2 : Int32) (s3 : Int32) (S : St) : Option (Int32 × St) :=
  if l2 = 0 then f_M_forge_74 l0 l1 l2 l4 l5 l6 l7 s0 s1 s2 s3 l2 l4 S else f_M_forge_74 l0 l1 l2 l4 l5 l6 l7 s0 s1 s2 s3 l2 (0 : Int32) S
theorem t_M_forge_63 (scr : Nat × (Nat → Int32)) (l0 : Nat) (l1 : Int32) (l2 : Int32) (l4 : Int32) (l5 : Int32) (l6 : Int32) (l7 : Int32) (s0 : Nat) (s1 : Int32) (s2 : Int32) (s3 : Int32) (S : St) (T : St) (d3 : Option iV) {x : Int32 × St} {o : Option iV × SS} (hx : f_M_forge_63 l0 l1 l2 l4 l5 l6 l7 s0 s1 s2 s3 S = some x) (hG : (fun x => (some (vI x.1), (T, x.2)) = o) x) : EB scr 1 1 2 cd_M_forge (63, [some (vR 1 l0), some (vI l1), some (vI l2), d3, some (vI l4), some (vI l5), some (vI l6), some (vI l7)], [vI s3, vI s2, vI s1, vR 1 s0]) (T, S) o := by
  unfold f_M_forge_63 at hx
  try dsimp only at hG
  refine ev_steps 2 (c' := (65, [some (vR 1 l0), some (vI l1), some (vI l2), _, some (vI l4), some (vI l5), some (vI l6), some (vI l7)], [vI l2, vI l2, vI s3, vI s2, vI s1, vR 1 s0])) (h' := (T, S)) rfl ?_
  refine ev_if_ne rfl (fun hc => ?_) (fun hc => ?_)
  · rw [if_pos hc] at hx
    refine ev_steps 2 (c' := (74, [some (vR 1 l0), some (vI l1), some (vI l2), _, some (vI l4), some (vI l5), some (vI l6), some (vI l7)], [vI l4, vI l2, vI s3, vI s2, vI s1, vR 1 s0])) (h' := (T, S)) rfl ?_
    exact t_M_forge_74 scr l0 l1 l2 l4 l5 l6 l7 s0 s1 s2 s3 l2 l4 S T _ hx hG
  · rw [if_neg hc] at hx
    refine ev_steps 1 (c' := (74, [some (vR 1 l0), some (vI l1), some (vI l2), _, some (vI l4), some (vI l5), some (vI l6), some (vI l7)], [vI (0 : Int32), vI l2, vI s3, vI s2, vI s1, vR 1 s0])) (h' := (T, S)) rfl ?_
    exact t_M_forge_74 scr l0 l1 l2 l4 l5 l6 l7 s0 s1 s2 s3 l2 (0 : Int32) S T _ hx hG
def f_M_forge_36 (l0 : Nat) (l1 : Int32) (l2 : Int32) (l3 : Int32) (l4 : Int32) (l5 : Int32) (l6 : Int32) (l7 : Int32) (S : St) : Option (Int32 × St) :=
  bd (f_M_full l0 ((1 : Int32) - l1) (0 : Int32) S) (fun r303 => if r303 = 0 then (if l2 = 0 then f_M_forge_63 l0 l1 l2 l4 l5 l6 l7 l0 ((1 : Int32) - l1) (0 : Int32) (0 : Int32) S else f_M_forge_63 l0 l1 l2 l4 l5 l6 l7 l0 ((1 : Int32) - l1) (0 : Int32) l3 S) else f_M_forge_47 S)
theorem t_M_forge_36 (scr : Nat × (Nat → Int32)) (l0 : Nat) (l1 : Int32) (l2 : Int32) (l3 : Int32) (l4 : Int32) (l5 : Int32) (l6 : Int32) (l7 : Int32) (S : St) (T : St) {x : Int32 × St} {o : Option iV × SS} (hx : f_M_forge_36 l0 l1 l2 l3 l4 l5 l6 l7 S = some x) (hG : (fun x => (some (vI x.1), (T, x.2)) = o) x) : EB scr 1 1 2 cd_M_forge (36, [some (vR 1 l0), some (vI l1), some (vI l2), some (vI l3), some (vI l4), some (vI l5), some (vI l6), some (vI l7)], []) (T, S) o := by
  unfold f_M_forge_36 at hx
  try dsimp only at hG
  refine ev_steps 5 (c' := (41, [some (vR 1 l0), some (vI l1), some (vI l2), some (vI l3), some (vI l4), some (vI l5), some (vI l6), some (vI l7)], [vI (0 : Int32), vI ((1 : Int32) - l1), vR 1 l0])) (h' := (T, S)) rfl ?_
  obtain ⟨r303, hc, hx⟩ := bd_some hx
  refine ev_call rfl rfl rfl rfl rfl rfl rfl rfl rfl ((t_M_full scr l0 ((1 : Int32) - l1) (0 : Int32) S T hc rfl).mono (by decide)) ?_
  refine ev_steps 0 (c' := (44, [some (vR 1 l0), some (vI l1), some (vI l2), some (vI l3), some (vI l4), some (vI l5), some (vI l6), some (vI l7)], [vI r303])) (h' := (T, S)) rfl ?_
  refine ev_if_eq rfl (fun hc => ?_) (fun hc => ?_)
  · rw [if_pos hc] at hx
    refine ev_steps 6 (c' := (55, [some (vR 1 l0), some (vI l1), some (vI l2), some (vI l3), some (vI l4), some (vI l5), some (vI l6), some (vI l7)], [vI l2, vI (0 : Int32), vI ((1 : Int32) - l1), vR 1 l0])) (h' := (T, S)) rfl ?_
    refine ev_if_ne rfl (fun hc => ?_) (fun hc => ?_)
    · rw [if_pos hc] at hx
      refine ev_steps 2 (c' := (63, [some (vR 1 l0), some (vI l1), some (vI l2), some (vI l3), some (vI l4), some (vI l5), some (vI l6), some (vI l7)], [vI (0 : Int32), vI (0 : Int32), vI ((1 : Int32) - l1), vR 1 l0])) (h' := (T, S)) rfl ?_
      exact t_M_forge_63 scr l0 l1 l2 l4 l5 l6 l7 l0 ((1 : Int32) - l1) (0 : Int32) (0 : Int32) S T _ hx hG
    · rw [if_neg hc] at hx
      refine ev_steps 1 (c' := (63, [some (vR 1 l0), some (vI l1), some (vI l2), some (vI l3), some (vI l4), some (vI l5), some (vI l6), some (vI l7)], [vI l3, vI (0 : Int32), vI ((1 : Int32) - l1), vR 1 l0])) (h' := (T, S)) rfl ?_
      exact t_M_forge_63 scr l0 l1 l2 l4 l5 l6 l7 l0 ((1 : Int32) - l1) (0 : Int32) l3 S T _ hx hG
  · rw [if_neg hc] at hx
    exact t_M_forge_47 scr S T _ _ _ _ _ _ _ _ hx hG
def f_M_forge_22 (l0 : Nat) (l1 : Int32) (l2 : Int32) (l3 : Int32) (l4 : Int32) (l5 : Int32) (l6 : Int32) (l7 : Int32) (S : St) : Option (Int32 × St) :=
  if l2 = 0 then f_M_forge_36 l0 l1 l2 l3 l4 l5 l6 l7 S else (if inb l1 2 = true then if l3 = (S cM_own l0 (ix l1)) then f_M_forge_47 S else f_M_forge_36 l0 l1 l2 l3 l4 l5 l6 l7 S else none)
theorem t_M_forge_22 (scr : Nat × (Nat → Int32)) (l0 : Nat) (l1 : Int32) (l2 : Int32) (l3 : Int32) (l4 : Int32) (l5 : Int32) (l6 : Int32) (l7 : Int32) (S : St) (T : St) {x : Int32 × St} {o : Option iV × SS} (hx : f_M_forge_22 l0 l1 l2 l3 l4 l5 l6 l7 S = some x) (hG : (fun x => (some (vI x.1), (T, x.2)) = o) x) : EB scr 1 1 2 cd_M_forge (22, [some (vR 1 l0), some (vI l1), some (vI l2), some (vI l3), some (vI l4), some (vI l5), some (vI l6), some (vI l7)], []) (T, S) o := by
  unfold f_M_forge_22 at hx
  try dsimp only at hG
  refine ev_steps 1 (c' := (23, [some (vR 1 l0), some (vI l1), some (vI l2), some (vI l3), some (vI l4), some (vI l5), some (vI l6), some (vI l7)], [vI l2])) (h' := (T, S)) rfl ?_
  refine ev_if_eq rfl (fun hc => ?_) (fun hc => ?_)
  · rw [if_pos hc] at hx
    exact t_M_forge_36 scr l0 l1 l2 l3 l4 l5 l6 l7 S T hx hG
  · rw [if_neg hc] at hx
    refine ev_steps 4 (c' := (32, [some (vR 1 l0), some (vI l1), some (vI l2), some (vI l3), some (vI l4), some (vI l5), some (vI l6), some (vI l7)], [vI l1, vR 80 l0, vI l3])) (h' := (T, S)) rfl ?_
    obtain ⟨hg, hx⟩ := ifg hx
    refine ev_iald rfl rfl rfl hg ?_
    refine ev_steps 0 (c' := (33, [some (vR 1 l0), some (vI l1), some (vI l2), some (vI l3), some (vI l4), some (vI l5), some (vI l6), some (vI l7)], [vI (S cM_own l0 (ix l1)), vI l3])) (h' := (T, S)) rfl ?_
    refine ev_icmp_eq rfl (fun hc => ?_) (fun hc => ?_)
    · rw [if_pos hc] at hx
      exact t_M_forge_47 scr S T _ _ _ _ _ _ _ _ hx hG
    · rw [if_neg hc] at hx
      exact t_M_forge_36 scr l0 l1 l2 l3 l4 l5 l6 l7 S T hx hG
def f_M_forge (u : Nat) (a1 : Int32) (a2 : Int32) (a3 : Int32) (a4 : Int32) (a5 : Int32) (a6 : Int32) (a7 : Int32) (S : St) : Option (Int32 × St) :=
  if (f_M_isTwo a1) = 0 then f_M_forge_47 S else (if a2 = 0 then f_M_forge_22 u a1 a2 a3 a4 a5 a6 a7 S else (if a2 = (2 : Int32) then f_M_forge_22 u a1 a2 a3 a4 a5 a6 a7 S else (if a2 = (8 : Int32) then f_M_forge_22 u a1 a2 a3 a4 a5 a6 a7 S else f_M_forge_47 S)))
theorem t_M_forge (scr : Nat × (Nat → Int32)) (u : Nat) (a1 : Int32) (a2 : Int32) (a3 : Int32) (a4 : Int32) (a5 : Int32) (a6 : Int32) (a7 : Int32) (S T : St) {x : Int32 × St} {o : Option iV × SS} (hx : f_M_forge u a1 a2 a3 a4 a5 a6 a7 S = some x) (hG : (some (vI x.1), (T, x.2)) = o) : E0 scr 2 66 [vR 1 u, vI a1, vI a2, vI a3, vI a4, vI a5, vI a6, vI a7] (T, S) o := by
  refine ev_meth (ls := [some (vR 1 u), some (vI a1), some (vI a2), some (vI a3), some (vI a4), some (vI a5), some (vI a6), some (vI a7)]) rfl rfl rfl ?_
  unfold f_M_forge at hx
  refine ev_steps 1 (c' := (1, [some (vR 1 u), some (vI a1), some (vI a2), some (vI a3), some (vI a4), some (vI a5), some (vI a6), some (vI a7)], [vI a1])) (h' := (T, S)) rfl ?_
  refine ev_call rfl rfl rfl rfl rfl rfl rfl rfl rfl ((t_M_isTwo scr a1 S T rfl).mono (by decide)) ?_
  refine ev_steps 0 (c' := (4, [some (vR 1 u), some (vI a1), some (vI a2), some (vI a3), some (vI a4), some (vI a5), some (vI a6), some (vI a7)], [vI (f_M_isTwo a1)])) (h' := (T, S)) rfl ?_
  refine ev_if_eq rfl (fun hc => ?_) (fun hc => ?_)
  · rw [if_pos hc] at hx
    exact t_M_forge_47 scr S T _ _ _ _ _ _ _ _ hx hG
  · rw [if_neg hc] at hx
    refine ev_steps 1 (c' := (8, [some (vR 1 u), some (vI a1), some (vI a2), some (vI a3), some (vI a4), some (vI a5), some (vI a6), some (vI a7)], [vI a2])) (h' := (T, S)) rfl ?_
    refine ev_if_eq rfl (fun hc => ?_) (fun hc => ?_)
    · rw [if_pos hc] at hx
      exact t_M_forge_22 scr u a1 a2 a3 a4 a5 a6 a7 S T hx hG
    · rw [if_neg hc] at hx
      refine ev_steps 2 (c' := (13, [some (vR 1 u), some (vI a1), some (vI a2), some (vI a3), some (vI a4), some (vI a5), some (vI a6), some (vI a7)], [vI (2 : Int32), vI a2])) (h' := (T, S)) rfl ?_
      refine ev_icmp_eq rfl (fun hc => ?_) (fun hc => ?_)
      · rw [if_pos hc] at hx
        exact t_M_forge_22 scr u a1 a2 a3 a4 a5 a6 a7 S T hx hG
      · rw [if_neg hc] at hx
        refine ev_steps 2 (c' := (19, [some (vR 1 u), some (vI a1), some (vI a2), some (vI a3), some (vI a4), some (vI a5), some (vI a6), some (vI a7)], [vI (8 : Int32), vI a2])) (h' := (T, S)) rfl ?_
        refine ev_icmp_ne rfl (fun hc => ?_) (fun hc => ?_)
        · rw [if_pos hc] at hx
          exact t_M_forge_22 scr u a1 a2 a3 a4 a5 a6 a7 S T hx hG
        · rw [if_neg hc] at hx
          exact t_M_forge_47 scr S T _ _ _ _ _ _ _ _ hx hG
-- M_fail
def f_M_fail_65 (l0 : Nat) (l1 : Int32) (s0 : Nat) (s1 : Int32) (s2 : Int32) (S : St) : Option (St) :=
  if inb s1 4 = true then (if iIsB s2 = true then if inb l1 2 = true then if (S cM_limit l0 0) < (S cM_allErrors l0 (ix l1)) then (bd (f_M_pathToUse l0 l1 (up3 S cM_active s0 (ix s1) s2)) (fun r309 => if inb l1 2 = true then bd (f_M_post l0 l1 r309 (S cM_other l0 (ix l1)) (8 : Int32) (0 : Int32) (0 : Int32) (up3 S cM_active s0 (ix s1) s2)) (fun S312 => bd (f_M_close l0 l1 (1 : Int32) S312) (fun S314 => some S314)) else none)) else some (up3 S cM_active s0 (ix s1) s2) else none else none) else none
theorem t_M_fail_65 (scr : Nat × (Nat → Int32)) (l0 : Nat) (l1 : Int32) (s0 : Nat) (s1 : Int32) (s2 : Int32) (S : St) (T : St) (d2 : Option iV) {x : St} {o : Option iV × SS} (hx : f_M_fail_65 l0 l1 s0 s1 s2 S = some x) (hG : (fun x => (none, (T, x)) = o) x) : EB scr 2 1 0 cd_M_fail (65, [some (vR 1 l0), some (vI l1), d2], [vI s2, vI s1, vR 91 s0]) (T, S) o := by
  unfold f_M_fail_65 at hx
  try dsimp only at hG
  obtain ⟨hg, hx⟩ := ifg hx
  obtain ⟨hv, hx⟩ := ifg hx
  refine ev_bast rfl rfl hg hv ?_
  refine ev_steps 3 (c' := (71, [some (vR 1 l0), some (vI l1), _], [vI l1, vR 89 l0])) (h' := (T, up3 S cM_active s0 (ix s1) s2)) rfl ?_
  obtain ⟨hg, hx⟩ := ifg hx
  refine ev_iald rfl rfl rfl hg ?_
  refine ev_steps 2 (c' := (76, [some (vR 1 l0), some (vI l1), _], [vI (S cM_limit l0 0), vI (S cM_allErrors l0 (ix l1))])) (h' := (T, up3 S cM_active s0 (ix s1) s2)) rfl ?_
  refine ev_icmp_le rfl (fun hc => ?_) (fun hc => ?_)
  · rw [if_pos hc] at hx
    refine ev_steps 4 (c' := (83, [some (vR 1 l0), some (vI l1), _], [vI l1, vR 1 l0, vI l1, vR 1 l0])) (h' := (T, up3 S cM_active s0 (ix s1) s2)) rfl ?_
    obtain ⟨r309, hc, hx⟩ := bd_some hx
    refine ev_call rfl rfl rfl rfl rfl rfl rfl rfl rfl ((t_M_pathToUse scr l0 l1 (up3 S cM_active s0 (ix s1) s2) T hc rfl).mono (by decide)) ?_
    refine ev_steps 3 (c' := (91, [some (vR 1 l0), some (vI l1), _], [vI l1, vR 81 l0, vI r309, vI l1, vR 1 l0])) (h' := (T, up3 S cM_active s0 (ix s1) s2)) rfl ?_
    obtain ⟨hg, hx⟩ := ifg hx
    refine ev_iald rfl rfl rfl hg ?_
    refine ev_steps 3 (c' := (96, [some (vR 1 l0), some (vI l1), _], [vI (0 : Int32), vI (0 : Int32), vI (8 : Int32), vI (S cM_other l0 (ix l1)), vI r309, vI l1, vR 1 l0])) (h' := (T, up3 S cM_active s0 (ix s1) s2)) rfl ?_
    obtain ⟨S312, hc, hx⟩ := bd_some hx
    refine ev_call rfl rfl rfl rfl rfl rfl rfl rfl rfl ((t_M_post scr l0 l1 r309 (S cM_other l0 (ix l1)) (8 : Int32) (0 : Int32) (0 : Int32) (up3 S cM_active s0 (ix s1) s2) T hc rfl).mono (by decide)) ?_
    refine ev_steps 3 (c' := (102, [some (vR 1 l0), some (vI l1), _], [vI (1 : Int32), vI l1, vR 1 l0])) (h' := (T, S312)) rfl ?_
    obtain ⟨S314, hc, hx⟩ := bd_some hx
    refine ev_call rfl rfl rfl rfl rfl rfl rfl rfl rfl ((t_M_close scr l0 l1 (1 : Int32) S312 T hc rfl).mono (by decide)) ?_
    refine ev_steps 0 (c' := (105, [some (vR 1 l0), some (vI l1), _], [])) (h' := (T, S314)) rfl ?_
    cases hx
    subst hG
    exact ev_ret rfl rfl
  · rw [if_neg hc] at hx
    cases hx
    subst hG
    exact ev_ret rfl rfl
def f_M_fail_64 (l0 : Nat) (l1 : Int32) (s0 : Nat) (s1 : Int32) (S : St) : Option (St) :=
  f_M_fail_65 l0 l1 s0 s1 (0 : Int32) S
theorem t_M_fail_64 (scr : Nat × (Nat → Int32)) (l0 : Nat) (l1 : Int32) (s0 : Nat) (s1 : Int32) (S : St) (T : St) (d2 : Option iV) {x : St} {o : Option iV × SS} (hx : f_M_fail_64 l0 l1 s0 s1 S = some x) (hG : (fun x => (none, (T, x)) = o) x) : EB scr 2 1 0 cd_M_fail (64, [some (vR 1 l0), some (vI l1), d2], [vI s1, vR 91 s0]) (T, S) o := by
  unfold f_M_fail_64 at hx
  try dsimp only at hG
  refine ev_steps 1 (c' := (65, [some (vR 1 l0), some (vI l1), _], [vI (0 : Int32), vI s1, vR 91 s0])) (h' := (T, S)) rfl ?_
  exact t_M_fail_65 scr l0 l1 s0 s1 (0 : Int32) S T _ hx hG
def f_M_fail (u : Nat) (a1 : Int32) (a2 : Int32) (S : St) : Option (St) :=
  if inb (((2 : Int32) * a1) + a2) 4 = true then if inb (((2 : Int32) * a1) + a2) 4 = true then if inb a1 2 = true then if inb a1 2 = true then if inb (((2 : Int32) * a1) + a2) 4 = true then if (nz (S cM_active u (ix (((2 : Int32) * a1) + a2)))) = 0 then f_M_fail_64 u a1 u (((2 : Int32) * a1) + a2) (up3 (up3 S cM_errors u (ix (((2 : Int32) * a1) + a2)) ((S cM_errors u (ix (((2 : Int32) * a1) + a2))) + (1 : Int32))) cM_allErrors u (ix a1) ((S cM_allErrors u (ix a1)) + (1 : Int32))) else (if inb (((2 : Int32) * a1) + a2) 4 = true then if ((up3 S cM_errors u (ix (((2 : Int32) * a1) + a2)) ((S cM_errors u (ix (((2 : Int32) * a1) + a2))) + (1 : Int32))) cM_errors u (ix (((2 : Int32) * a1) + a2))) < (3 : Int32) then f_M_fail_65 u a1 u (((2 : Int32) * a1) + a2) (1 : Int32) (up3 (up3 S cM_errors u (ix (((2 : Int32) * a1) + a2)) ((S cM_errors u (ix (((2 : Int32) * a1) + a2))) + (1 : Int32))) cM_allErrors u (ix a1) ((S cM_allErrors u (ix a1)) + (1 : Int32))) else f_M_fail_64 u a1 u (((2 : Int32) * a1) + a2) (up3 (up3 S cM_errors u (ix (((2 : Int32) * a1) + a2)) ((S cM_errors u (ix (((2 : Int32) * a1) + a2))) + (1 : Int32))) cM_allErrors u (ix a1) ((S cM_allErrors u (ix a1)) + (1 : Int32))) else none) else none else none else none else none else none
theorem t_M_fail (scr : Nat × (Nat → Int32)) (u : Nat) (a1 : Int32) (a2 : Int32) (S T : St) {x : St} {o : Option iV × SS} (hx : f_M_fail u a1 a2 S = some x) (hG : (none, (T, x)) = o) : E0 scr 3 67 [vR 1 u, vI a1, vI a2] (T, S) o := by
  refine ev_meth (ls := [some (vR 1 u), some (vI a1), some (vI a2)]) rfl rfl rfl ?_
  unfold f_M_fail at hx
  refine ev_steps 8 (c' := (10, [some (vR 1 u), some (vI a1), some (vI a2)], [vI (((2 : Int32) * a1) + a2), vR 94 u, vI (((2 : Int32) * a1) + a2), vR 94 u])) (h' := (T, S)) rfl ?_
  obtain ⟨hg, hx⟩ := ifg hx
  refine ev_iald rfl rfl rfl hg ?_
  refine ev_steps 2 (c' := (13, [some (vR 1 u), some (vI a1), some (vI a2)], [vI ((S cM_errors u (ix (((2 : Int32) * a1) + a2))) + (1 : Int32)), vI (((2 : Int32) * a1) + a2), vR 94 u])) (h' := (T, S)) rfl ?_
  obtain ⟨hg, hx⟩ := ifg hx
  refine ev_iast rfl rfl hg ?_
  refine ev_steps 4 (c' := (20, [some (vR 1 u), some (vI a1), some (vI a2)], [vI a1, vR 89 u, vI a1, vR 89 u])) (h' := (T, up3 S cM_errors u (ix (((2 : Int32) * a1) + a2)) ((S cM_errors u (ix (((2 : Int32) * a1) + a2))) + (1 : Int32)))) rfl ?_
  obtain ⟨hg, hx⟩ := ifg hx
  refine ev_iald rfl rfl rfl hg ?_
  refine ev_steps 2 (c' := (23, [some (vR 1 u), some (vI a1), some (vI a2)], [vI ((S cM_allErrors u (ix a1)) + (1 : Int32)), vI a1, vR 89 u])) (h' := (T, up3 S cM_errors u (ix (((2 : Int32) * a1) + a2)) ((S cM_errors u (ix (((2 : Int32) * a1) + a2))) + (1 : Int32)))) rfl ?_
  obtain ⟨hg, hx⟩ := ifg hx
  refine ev_iast rfl rfl hg ?_
  refine ev_steps 14 (c' := (42, [some (vR 1 u), some (vI a1), some (vI a2)], [vI (((2 : Int32) * a1) + a2), vR 91 u, vI (((2 : Int32) * a1) + a2), vR 91 u])) (h' := (T, up3 (up3 S cM_errors u (ix (((2 : Int32) * a1) + a2)) ((S cM_errors u (ix (((2 : Int32) * a1) + a2))) + (1 : Int32))) cM_allErrors u (ix a1) ((S cM_allErrors u (ix a1)) + (1 : Int32)))) rfl ?_
  obtain ⟨hg, hx⟩ := ifg hx
  refine ev_bald rfl rfl hg ?_
  refine ev_steps 0 (c' := (43, [some (vR 1 u), some (vI a1), some (vI a2)], [vI (nz (S cM_active u (ix (((2 : Int32) * a1) + a2)))), vI (((2 : Int32) * a1) + a2), vR 91 u])) (h' := (T, up3 (up3 S cM_errors u (ix (((2 : Int32) * a1) + a2)) ((S cM_errors u (ix (((2 : Int32) * a1) + a2))) + (1 : Int32))) cM_allErrors u (ix a1) ((S cM_allErrors u (ix a1)) + (1 : Int32)))) rfl ?_
  refine ev_if_eq rfl (fun hc => ?_) (fun hc => ?_)
  · rw [if_pos hc] at hx
    exact t_M_fail_64 scr u a1 u (((2 : Int32) * a1) + a2) (up3 (up3 S cM_errors u (ix (((2 : Int32) * a1) + a2)) ((S cM_errors u (ix (((2 : Int32) * a1) + a2))) + (1 : Int32))) cM_allErrors u (ix a1) ((S cM_allErrors u (ix a1)) + (1 : Int32))) T _ hx hG
  · rw [if_neg hc] at hx
    refine ev_steps 7 (c' := (55, [some (vR 1 u), some (vI a1), some (vI a2)], [vI (((2 : Int32) * a1) + a2), vR 94 u, vI (((2 : Int32) * a1) + a2), vR 91 u])) (h' := (T, up3 (up3 S cM_errors u (ix (((2 : Int32) * a1) + a2)) ((S cM_errors u (ix (((2 : Int32) * a1) + a2))) + (1 : Int32))) cM_allErrors u (ix a1) ((S cM_allErrors u (ix a1)) + (1 : Int32)))) rfl ?_
    obtain ⟨hg, hx⟩ := ifg hx
    refine ev_iald rfl rfl rfl hg ?_
    refine ev_steps 1 (c' := (57, [some (vR 1 u), some (vI a1), some (vI a2)], [vI (3 : Int32), vI ((up3 S cM_errors u (ix (((2 : Int32) * a1) + a2)) ((S cM_errors u (ix (((2 : Int32) * a1) + a2))) + (1 : Int32))) cM_errors u (ix (((2 : Int32) * a1) + a2))), vI (((2 : Int32) * a1) + a2), vR 91 u])) (h' := (T, up3 (up3 S cM_errors u (ix (((2 : Int32) * a1) + a2)) ((S cM_errors u (ix (((2 : Int32) * a1) + a2))) + (1 : Int32))) cM_allErrors u (ix a1) ((S cM_allErrors u (ix a1)) + (1 : Int32)))) rfl ?_
    refine ev_icmp_ge rfl (fun hc => ?_) (fun hc => ?_)
    · rw [if_pos hc] at hx
      refine ev_steps 2 (c' := (65, [some (vR 1 u), some (vI a1), some (vI a2)], [vI (1 : Int32), vI (((2 : Int32) * a1) + a2), vR 91 u])) (h' := (T, up3 (up3 S cM_errors u (ix (((2 : Int32) * a1) + a2)) ((S cM_errors u (ix (((2 : Int32) * a1) + a2))) + (1 : Int32))) cM_allErrors u (ix a1) ((S cM_allErrors u (ix a1)) + (1 : Int32)))) rfl ?_
      exact t_M_fail_65 scr u a1 u (((2 : Int32) * a1) + a2) (1 : Int32) (up3 (up3 S cM_errors u (ix (((2 : Int32) * a1) + a2)) ((S cM_errors u (ix (((2 : Int32) * a1) + a2))) + (1 : Int32))) cM_allErrors u (ix a1) ((S cM_allErrors u (ix a1)) + (1 : Int32))) T _ hx hG
    · rw [if_neg hc] at hx
      exact t_M_fail_64 scr u a1 u (((2 : Int32) * a1) + a2) (up3 (up3 S cM_errors u (ix (((2 : Int32) * a1) + a2)) ((S cM_errors u (ix (((2 : Int32) * a1) + a2))) + (1 : Int32))) cM_allErrors u (ix a1) ((S cM_allErrors u (ix a1)) + (1 : Int32))) T _ hx hG
-- M_again
def f_M_again (u : Nat) (a1 : Int32) (S : St) : Option (St) :=
  if inb a1 2 = true then if (S cM_tries u (ix a1)) = (S cM_limit u 0) then (bd (f_M_close u a1 (2 : Int32) S) (fun S320 => some S320)) else (if inb a1 2 = true then if inb a1 2 = true then if inb a1 2 = true then if inb a1 2 = true then if (S cM_state u (ix a1)) = (1 : Int32) then (if inb a1 2 = true then if inb a1 2 = true then bd (f_M_post u a1 (iRem ((up3 S cM_tries u (ix a1) ((S cM_tries u (ix a1)) + (1 : Int32))) cM_tries u (ix a1)) (2 : Int32)) (0 : Int32) (0 : Int32) (S cM_own u (ix a1)) (0 : Int32) (up3 (up3 S cM_tries u (ix a1) ((S cM_tries u (ix a1)) + (1 : Int32))) cM_due u (ix a1) ((S cM_now u 0) + (3 : Int32)))) (fun S318 => some S318) else none else none) else (if inb a1 2 = true then if inb a1 2 = true then bd (f_M_sendCookie u a1 (iRem ((up3 S cM_tries u (ix a1) ((S cM_tries u (ix a1)) + (1 : Int32))) cM_tries u (ix a1)) (2 : Int32)) (S cM_other u (ix a1)) (2 : Int32) (0 : Int32) (up3 (up3 S cM_tries u (ix a1) ((S cM_tries u (ix a1)) + (1 : Int32))) cM_due u (ix a1) ((S cM_now u 0) + (3 : Int32)))) (fun S316 => some S316) else none else none) else none else none else none else none) else none
theorem t_M_again (scr : Nat × (Nat → Int32)) (u : Nat) (a1 : Int32) (S T : St) {x : St} {o : Option iV × SS} (hx : f_M_again u a1 S = some x) (hG : (none, (T, x)) = o) : E0 scr 3 68 [vR 1 u, vI a1] (T, S) o := by
  refine ev_meth (ls := [some (vR 1 u), some (vI a1)]) rfl rfl rfl ?_
  unfold f_M_again at hx
  refine ev_steps 3 (c' := (5, [some (vR 1 u), some (vI a1)], [vI a1, vR 86 u])) (h' := (T, S)) rfl ?_
  obtain ⟨hg, hx⟩ := ifg hx
  refine ev_iald rfl rfl rfl hg ?_
  refine ev_steps 2 (c' := (10, [some (vR 1 u), some (vI a1)], [vI (S cM_limit u 0), vI (S cM_tries u (ix a1))])) (h' := (T, S)) rfl ?_
  refine ev_icmp_ne rfl (fun hc => ?_) (fun hc => ?_)
  · rw [if_pos hc] at hx
    refine ev_steps 3 (c' := (16, [some (vR 1 u), some (vI a1)], [vI (2 : Int32), vI a1, vR 1 u])) (h' := (T, S)) rfl ?_
    obtain ⟨S320, hc, hx⟩ := bd_some hx
    refine ev_call rfl rfl rfl rfl rfl rfl rfl rfl rfl ((t_M_close scr u a1 (2 : Int32) S T hc rfl).mono (by decide)) ?_
    refine ev_steps 0 (c' := (19, [some (vR 1 u), some (vI a1)], [])) (h' := (T, S320)) rfl ?_
    cases hx
    subst hG
    exact ev_ret rfl rfl
  · rw [if_neg hc] at hx
    refine ev_steps 4 (c' := (26, [some (vR 1 u), some (vI a1)], [vI a1, vR 86 u, vI a1, vR 86 u])) (h' := (T, S)) rfl ?_
    obtain ⟨hg, hx⟩ := ifg hx
    refine ev_iald rfl rfl rfl hg ?_
    refine ev_steps 2 (c' := (29, [some (vR 1 u), some (vI a1)], [vI ((S cM_tries u (ix a1)) + (1 : Int32)), vI a1, vR 86 u])) (h' := (T, S)) rfl ?_
    obtain ⟨hg, hx⟩ := ifg hx
    refine ev_iast rfl rfl hg ?_
    refine ev_steps 7 (c' := (41, [some (vR 1 u), some (vI a1)], [vI ((S cM_now u 0) + (3 : Int32)), vI a1, vR 87 u])) (h' := (T, up3 S cM_tries u (ix a1) ((S cM_tries u (ix a1)) + (1 : Int32)))) rfl ?_
    obtain ⟨hg, hx⟩ := ifg hx
    refine ev_iast rfl rfl hg ?_
    refine ev_steps 3 (c' := (47, [some (vR 1 u), some (vI a1)], [vI a1, vR 79 u])) (h' := (T, up3 (up3 S cM_tries u (ix a1) ((S cM_tries u (ix a1)) + (1 : Int32))) cM_due u (ix a1) ((S cM_now u 0) + (3 : Int32)))) rfl ?_
    obtain ⟨hg, hx⟩ := ifg hx
    refine ev_iald rfl rfl rfl hg ?_
    refine ev_steps 1 (c' := (49, [some (vR 1 u), some (vI a1)], [vI (1 : Int32), vI (S cM_state u (ix a1))])) (h' := (T, up3 (up3 S cM_tries u (ix a1) ((S cM_tries u (ix a1)) + (1 : Int32))) cM_due u (ix a1) ((S cM_now u 0) + (3 : Int32)))) rfl ?_
    refine ev_icmp_ne rfl (fun hc => ?_) (fun hc => ?_)
    · rw [if_pos hc] at hx
      refine ev_steps 5 (c' := (59, [some (vR 1 u), some (vI a1)], [vI a1, vR 86 u, vI a1, vR 1 u])) (h' := (T, up3 (up3 S cM_tries u (ix a1) ((S cM_tries u (ix a1)) + (1 : Int32))) cM_due u (ix a1) ((S cM_now u 0) + (3 : Int32)))) rfl ?_
      obtain ⟨hg, hx⟩ := ifg hx
      refine ev_iald rfl rfl rfl hg ?_
      refine ev_steps 7 (c' := (69, [some (vR 1 u), some (vI a1)], [vI a1, vR 80 u, vI (0 : Int32), vI (0 : Int32), vI (iRem ((up3 S cM_tries u (ix a1) ((S cM_tries u (ix a1)) + (1 : Int32))) cM_tries u (ix a1)) (2 : Int32)), vI a1, vR 1 u])) (h' := (T, up3 (up3 S cM_tries u (ix a1) ((S cM_tries u (ix a1)) + (1 : Int32))) cM_due u (ix a1) ((S cM_now u 0) + (3 : Int32)))) rfl ?_
      obtain ⟨hg, hx⟩ := ifg hx
      refine ev_iald rfl rfl rfl hg ?_
      refine ev_steps 1 (c' := (71, [some (vR 1 u), some (vI a1)], [vI (0 : Int32), vI (S cM_own u (ix a1)), vI (0 : Int32), vI (0 : Int32), vI (iRem ((up3 S cM_tries u (ix a1) ((S cM_tries u (ix a1)) + (1 : Int32))) cM_tries u (ix a1)) (2 : Int32)), vI a1, vR 1 u])) (h' := (T, up3 (up3 S cM_tries u (ix a1) ((S cM_tries u (ix a1)) + (1 : Int32))) cM_due u (ix a1) ((S cM_now u 0) + (3 : Int32)))) rfl ?_
      obtain ⟨S318, hc, hx⟩ := bd_some hx
      refine ev_call rfl rfl rfl rfl rfl rfl rfl rfl rfl ((t_M_post scr u a1 (iRem ((up3 S cM_tries u (ix a1) ((S cM_tries u (ix a1)) + (1 : Int32))) cM_tries u (ix a1)) (2 : Int32)) (0 : Int32) (0 : Int32) (S cM_own u (ix a1)) (0 : Int32) (up3 (up3 S cM_tries u (ix a1) ((S cM_tries u (ix a1)) + (1 : Int32))) cM_due u (ix a1) ((S cM_now u 0) + (3 : Int32))) T hc rfl).mono (by decide)) ?_
      refine ev_steps 1 (c' := (98, [some (vR 1 u), some (vI a1)], [])) (h' := (T, S318)) rfl ?_
      cases hx
      subst hG
      exact ev_ret rfl rfl
    · rw [if_neg hc] at hx
      refine ev_steps 5 (c' := (84, [some (vR 1 u), some (vI a1)], [vI a1, vR 86 u, vI a1, vR 1 u])) (h' := (T, up3 (up3 S cM_tries u (ix a1) ((S cM_tries u (ix a1)) + (1 : Int32))) cM_due u (ix a1) ((S cM_now u 0) + (3 : Int32)))) rfl ?_
      obtain ⟨hg, hx⟩ := ifg hx
      refine ev_iald rfl rfl rfl hg ?_
      refine ev_steps 5 (c' := (92, [some (vR 1 u), some (vI a1)], [vI a1, vR 81 u, vI (iRem ((up3 S cM_tries u (ix a1) ((S cM_tries u (ix a1)) + (1 : Int32))) cM_tries u (ix a1)) (2 : Int32)), vI a1, vR 1 u])) (h' := (T, up3 (up3 S cM_tries u (ix a1) ((S cM_tries u (ix a1)) + (1 : Int32))) cM_due u (ix a1) ((S cM_now u 0) + (3 : Int32)))) rfl ?_
      obtain ⟨hg, hx⟩ := ifg hx
      refine ev_iald rfl rfl rfl hg ?_
      refine ev_steps 2 (c' := (95, [some (vR 1 u), some (vI a1)], [vI (0 : Int32), vI (2 : Int32), vI (S cM_other u (ix a1)), vI (iRem ((up3 S cM_tries u (ix a1) ((S cM_tries u (ix a1)) + (1 : Int32))) cM_tries u (ix a1)) (2 : Int32)), vI a1, vR 1 u])) (h' := (T, up3 (up3 S cM_tries u (ix a1) ((S cM_tries u (ix a1)) + (1 : Int32))) cM_due u (ix a1) ((S cM_now u 0) + (3 : Int32)))) rfl ?_
      obtain ⟨S316, hc, hx⟩ := bd_some hx
      refine ev_call rfl rfl rfl rfl rfl rfl rfl rfl rfl ((t_M_sendCookie scr u a1 (iRem ((up3 S cM_tries u (ix a1) ((S cM_tries u (ix a1)) + (1 : Int32))) cM_tries u (ix a1)) (2 : Int32)) (S cM_other u (ix a1)) (2 : Int32) (0 : Int32) (up3 (up3 S cM_tries u (ix a1) ((S cM_tries u (ix a1)) + (1 : Int32))) cM_due u (ix a1) ((S cM_now u 0) + (3 : Int32))) T hc rfl).mono (by decide)) ?_
      refine ev_steps 0 (c' := (98, [some (vR 1 u), some (vI a1)], [])) (h' := (T, S316)) rfl ?_
      cases hx
      subst hG
      exact ev_ret rfl rfl
