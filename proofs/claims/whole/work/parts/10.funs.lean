/-! Methods as functions on the store, printed by a program. -/
-- TagList_add
def f_TagList_add_2_b (l0 : Nat) (l1 : Int32) (S : St) : (Int32) → Option ((Int32) ⊕ (Int32 × St))
  | l2 => if l2 < (S cTagList_count l0 0) then (if inb l2 512 = true then if (S cTagList_tags l0 (ix l2)) = l1 then exW (some ((0 : Int32), S)) else some (Sum.inl (l2 + (1 : Int32))) else none) else exW (if (S cTagList_count l0 0) < (512 : Int32) then (if inb (S cTagList_count l0 0) 512 = true then some ((1 : Int32), up3 (up3 S cTagList_tags l0 (ix (S cTagList_count l0 0)) l1) cTagList_count l0 0 ((S cTagList_count l0 0) + (1 : Int32))) else none) else some ((0 : Int32), S))
def f_TagList_add_2 (l0 : Nat) (l1 : Int32) (S : St) (q : Int32) : Option (Int32 × St) := iter (f_TagList_add_2_b l0 l1 S) 4096 q
theorem t_TagList_add_2_b (scr : Nat × (Nat → Int32)) (l0 : Nat) (l1 : Int32) (l2 : Int32) (S : St) (T : St) {x : (Int32) ⊕ (Int32 × St)} {o : Option iV × SS} (hx : f_TagList_add_2_b l0 l1 S l2 = some x) (hG : (Sum.elim (fun q => EB scr 0 11 2 cd_TagList_add (2, [some (vR 11 l0), some (vI l1), some (vI q)], []) (S, T) o) (fun x => (some (vI x.1), (x.2, T)) = o)) x) : EB scr 0 11 2 cd_TagList_add (2, [some (vR 11 l0), some (vI l1), some (vI l2)], []) (S, T) o := by
  unfold f_TagList_add_2_b at hx
  dsimp only at hx
  refine ev_steps 3 (c' := (7, [some (vR 11 l0), some (vI l1), some (vI l2)], [vI (S cTagList_count l0 0), vI l2])) (h' := (S, T)) rfl ?_
  refine ev_icmp_ge rfl (fun hc => ?_) (fun hc => ?_)
  · rw [if_pos hc] at hx
    refine ev_steps 3 (c' := (15, [some (vR 11 l0), some (vI l1), some (vI l2)], [vI l2, vR 65 l0])) (h' := (S, T)) rfl ?_
    obtain ⟨hg, hx⟩ := ifg hx
    refine ev_iald rfl rfl rfl hg ?_
    refine ev_steps 1 (c' := (17, [some (vR 11 l0), some (vI l1), some (vI l2)], [vI l1, vI (S cTagList_tags l0 (ix l2))])) (h' := (S, T)) rfl ?_
    refine ev_icmp_ne rfl (fun hc => ?_) (fun hc => ?_)
    · rw [if_pos hc] at hx
      obtain ⟨x, hy, rfl⟩ := exW_some hx
      replace hx := hy
      simp only [Sum.elim_inr] at hG
      refine ev_steps 1 (c' := (21, [some (vR 11 l0), some (vI l1), some (vI l2)], [vI (0 : Int32)])) (h' := (S, T)) rfl ?_
      cases hx
      subst hG
      exact ev_ret rfl rfl
    · rw [if_neg hc] at hx
      refine ev_steps 2 (c' := (2, [some (vR 11 l0), some (vI l1), some (vI (l2 + (1 : Int32)))], [])) (h' := (S, T)) rfl ?_
      cases hx
      exact hG
  · rw [if_neg hc] at hx
    obtain ⟨x, hy, rfl⟩ := exW_some hx
    replace hx := hy
    simp only [Sum.elim_inr] at hG
    refine ev_steps 3 (c' := (35, [some (vR 11 l0), some (vI l1), some (vI l2)], [vI (512 : Int32), vI (S cTagList_count l0 0)])) (h' := (S, T)) rfl ?_
    refine ev_icmp_lt rfl (fun hc => ?_) (fun hc => ?_)
    · rw [if_pos hc] at hx
      refine ev_steps 5 (c' := (49, [some (vR 11 l0), some (vI l1), some (vI l2)], [vI l1, vI (S cTagList_count l0 0), vR 65 l0])) (h' := (S, T)) rfl ?_
      obtain ⟨hg, hx⟩ := ifg hx
      refine ev_iast rfl rfl hg ?_
      refine ev_steps 7 (c' := (61, [some (vR 11 l0), some (vI l1), some (vI l2)], [vI (1 : Int32)])) (h' := (up3 (up3 S cTagList_tags l0 (ix (S cTagList_count l0 0)) l1) cTagList_count l0 0 ((S cTagList_count l0 0) + (1 : Int32)), T)) rfl ?_
      cases hx
      subst hG
      exact ev_ret rfl rfl
    · rw [if_neg hc] at hx
      refine ev_steps 1 (c' := (39, [some (vR 11 l0), some (vI l1), some (vI l2)], [vI (0 : Int32)])) (h' := (S, T)) rfl ?_
      cases hx
      subst hG
      exact ev_ret rfl rfl
theorem t_TagList_add_2 (scr : Nat × (Nat → Int32)) (l0 : Nat) (l1 : Int32) (l2 : Int32) (S : St) (T : St) {x : Int32 × St} {o : Option iV × SS} (hx : f_TagList_add_2 l0 l1 S l2 = some x) (hG : (fun x => (some (vI x.1), (x.2, T)) = o) x) : EB scr 0 11 2 cd_TagList_add (2, [some (vR 11 l0), some (vI l1), some (vI l2)], []) (S, T) o := by
  exact iter_ind (P := fun q => EB scr 0 11 2 cd_TagList_add (2, [some (vR 11 l0), some (vI l1), some (vI q)], []) (S, T) o) (G := fun x => (some (vI x.1), (x.2, T)) = o) (fun q x hb hP  => t_TagList_add_2_b scr l0 l1 q S T hb hP) hx hG 
def f_TagList_add (u : Nat) (a1 : Int32) (S : St) : Option (Int32 × St) :=
  f_TagList_add_2 u a1 S (0 : Int32)
theorem t_TagList_add (scr : Nat × (Nat → Int32)) (u : Nat) (a1 : Int32) (S T : St) {x : Int32 × St} {o : Option iV × SS} (hx : f_TagList_add u a1 S = some x) (hG : (some (vI x.1), (x.2, T)) = o) : E0 scr 1 153 [vR 11 u, vI a1] (S, T) o := by
  refine ev_meth (ls := [some (vR 11 u), some (vI a1), none]) rfl rfl rfl ?_
  unfold f_TagList_add at hx
  refine ev_steps 2 (c' := (2, [some (vR 11 u), some (vI a1), some (vI (0 : Int32))], [])) (h' := (S, T)) rfl ?_
  exact t_TagList_add_2 scr u a1 (0 : Int32) S T hx hG
-- End_startTries
def f_End_startTries (u : Nat) (a1 : Int32) (S : St) : St :=
  up3 (up3 S cEnd_tries u 0 (1 : Int32)) cEnd_tryDue u 0 (a1 + (3 : Int32))
theorem t_End_startTries (scr : Nat × (Nat → Int32)) (u : Nat) (a1 : Int32) (S T : St) {o : Option iV × SS} (hG : (none, ((f_End_startTries u a1 S), T)) = o) : E0 scr 1 91 [vR 3 u, vI a1] (S, T) o := by
  refine ev_meth (ls := [some (vR 3 u), some (vI a1)]) rfl rfl rfl ?_
  unfold f_End_startTries at hG
  refine ev_steps 8 (c' := (12, [some (vR 3 u), some (vI a1)], [])) (h' := (up3 (up3 S cEnd_tries u 0 (1 : Int32)) cEnd_tryDue u 0 (a1 + (3 : Int32)), T)) rfl ?_
  subst hG
  exact ev_ret rfl rfl
-- Row_isFull
def f_Row_isFull (u : Nat) (S : St) : Int32 :=
  if (S cRow_count u 0) < (8 : Int32) then (0 : Int32) else (1 : Int32)
theorem t_Row_isFull (scr : Nat × (Nat → Int32)) (u : Nat) (S T : St) {o : Option iV × SS} (hG : (some (vI (f_Row_isFull u S)), (S, T)) = o) : E0 scr 1 147 [vR 9 u] (S, T) o := by
  refine ev_meth (ls := [some (vR 9 u)]) rfl rfl rfl ?_
  unfold f_Row_isFull at hG
  refine ev_steps 3 (c' := (6, [some (vR 9 u)], [vI (8 : Int32), vI (S cRow_count u 0)])) (h' := (S, T)) rfl ?_
  refine ev_icmp_lt rfl (fun hc => ?_) (fun hc => ?_)
  · rw [if_pos hc] at hG
    refine ev_steps 1 (c' := (14, [some (vR 9 u)], [vI (0 : Int32)])) (h' := (S, T)) rfl ?_
    subst hG
    exact ev_ret rfl rfl
  · rw [if_neg hc] at hG
    refine ev_steps 2 (c' := (14, [some (vR 9 u)], [vI (1 : Int32)])) (h' := (S, T)) rfl ?_
    subst hG
    exact ev_ret rfl rfl
-- Row_addNew
def f_Row_addNew (u : Nat) (S : St) : Option (Nat × St) :=
  if (f_Row_isFull u S) = 0 then (if inb (iRem ((S cRow_start u 0) + (S cRow_count u 0)) (8 : Int32)) 8 = true then some (9 * u + ix (iRem ((S cRow_start u 0) + (S cRow_count u 0)) (8 : Int32)), up3 S cRow_count u 0 ((S cRow_count u 0) + (1 : Int32))) else none) else some (9 * u + 8, S)
theorem t_Row_addNew (scr : Nat × (Nat → Int32)) (u : Nat) (S T : St) {x : Nat × St} {o : Option iV × SS} (hx : f_Row_addNew u S = some x) (hG : (some (vR 6 x.1), (x.2, T)) = o) : E0 scr 2 150 [vR 9 u] (S, T) o := by
  refine ev_meth (ls := [some (vR 9 u), none]) rfl rfl rfl ?_
  unfold f_Row_addNew at hx
  refine ev_steps 1 (c' := (1, [some (vR 9 u), none], [vR 9 u])) (h' := (S, T)) rfl ?_
  refine ev_call rfl rfl rfl rfl rfl rfl rfl rfl rfl ((t_Row_isFull scr u S T rfl).mono (by decide)) ?_
  refine ev_steps 0 (c' := (4, [some (vR 9 u), none], [vI (f_Row_isFull u S)])) (h' := (S, T)) rfl ?_
  refine ev_if_eq rfl (fun hc => ?_) (fun hc => ?_)
  · rw [if_pos hc] at hx
    refine ev_steps 9 (c' := (28, [some (vR 9 u), none], [vI (iRem ((S cRow_start u 0) + (S cRow_count u 0)) (8 : Int32)), vR 66 u])) (h' := (S, T)) rfl ?_
    obtain ⟨hg, hx⟩ := ifg hx
    refine ev_aald3 rfl rfl hg ?_
    refine ev_steps 8 (c' := (41, [some (vR 9 u), some (vR 6 (9 * u + ix (iRem ((S cRow_start u 0) + (S cRow_count u 0)) (8 : Int32))))], [vR 6 (9 * u + ix (iRem ((S cRow_start u 0) + (S cRow_count u 0)) (8 : Int32)))])) (h' := (up3 S cRow_count u 0 ((S cRow_count u 0) + (1 : Int32)), T)) rfl ?_
    cases hx
    subst hG
    exact ev_ret rfl rfl
  · rw [if_neg hc] at hx
    refine ev_steps 2 (c' := (11, [some (vR 9 u), none], [vR 6 (9 * u + 8)])) (h' := (S, T)) rfl ?_
    cases hx
    subst hG
    exact ev_ret rfl rfl
-- End_post
def f_End_post (u : Nat) (a1 : Int32) (a2 : Int32) (S : St) : Option (Nat × St) :=
  if inb a1 2 = true then bd2 (f_Row_addNew (2 * u + ix a1) S) (fun r1 S2 => some (r1, up3 (up3 S2 cPacket_kind r1 0 a2) cPacket_tag r1 0 (S2 cEnd_otherTag u 0))) else none
theorem t_End_post (scr : Nat × (Nat → Int32)) (u : Nat) (a1 : Int32) (a2 : Int32) (S T : St) {x : Nat × St} {o : Option iV × SS} (hx : f_End_post u a1 a2 S = some x) (hG : (some (vR 6 x.1), (x.2, T)) = o) : E0 scr 3 81 [vR 3 u, vI a1, vI a2] (S, T) o := by
  refine ev_meth (ls := [some (vR 3 u), some (vI a1), some (vI a2), none]) rfl rfl rfl ?_
  unfold f_End_post at hx
  refine ev_steps 3 (c' := (5, [some (vR 3 u), some (vI a1), some (vI a2), none], [vI a1, vR 67 u])) (h' := (S, T)) rfl ?_
  obtain ⟨hg, hx⟩ := ifg hx
  refine ev_aald3 rfl rfl hg ?_
  refine ev_steps 1 (c' := (9, [some (vR 3 u), some (vI a1), some (vI a2), none], [vR 9 (2 * u + ix a1)])) (h' := (S, T)) rfl ?_
  obtain ⟨r1, S2, hc, hx⟩ := bd2_some hx
  refine ev_call rfl rfl rfl rfl rfl rfl rfl rfl rfl ((t_Row_addNew scr (2 * u + ix a1) S T hc rfl).mono (by decide)) ?_
  refine ev_steps 9 (c' := (27, [some (vR 3 u), some (vI a1), some (vI a2), some (vR 6 r1)], [vR 6 r1])) (h' := (up3 (up3 S2 cPacket_kind r1 0 a2) cPacket_tag r1 0 (S2 cEnd_otherTag u 0), T)) rfl ?_
  cases hx
  subst hG
  exact ev_ret rfl rfl
-- Cookie_copyFrom
def f_Cookie_copyFrom (u : Nat) (u1 : Nat) (S : St) : St :=
  up3 (up3 (up3 (up3 S cCookie_clientTag u 0 (S cCookie_clientTag u1 0)) cCookie_serverTag u 0 (S cCookie_serverTag u1 0)) cCookie_tick u 0 (S cCookie_tick u1 0)) cCookie_seal u 0 (S cCookie_seal u1 0)
theorem t_Cookie_copyFrom (scr : Nat × (Nat → Int32)) (u : Nat) (u1 : Nat) (S T : St) {o : Option iV × SS} (hG : (none, ((f_Cookie_copyFrom u u1 S), T)) = o) : E0 scr 1 76 [vR 2 u, vR 2 u1] (S, T) o := by
  refine ev_meth (ls := [some (vR 2 u), some (vR 2 u1)]) rfl rfl rfl ?_
  unfold f_Cookie_copyFrom at hG
  refine ev_steps 16 (c' := (32, [some (vR 2 u), some (vR 2 u1)], [])) (h' := (up3 (up3 (up3 (up3 S cCookie_clientTag u 0 (S cCookie_clientTag u1 0)) cCookie_serverTag u 0 (S cCookie_serverTag u1 0)) cCookie_tick u 0 (S cCookie_tick u1 0)) cCookie_seal u 0 (S cCookie_seal u1 0), T)) rfl ?_
  subst hG
  exact ev_ret rfl rfl
-- End_postOpening
def f_End_postOpening (u : Nat) (a1 : Int32) (S : St) : Option (St) :=
  if (S cEnd_state u 0) = (1 : Int32) then (bd2 (f_End_post u a1 (0 : Int32) S) (fun r5 S6 => some (up3 (up3 S6 cPacket_tag r5 0 (0 : Int32)) cPacket_newTag r5 0 (S6 cEnd_ownTag u 0)))) else (bd2 (f_End_post u a1 (2 : Int32) S) (fun r3 S4 => some (f_Cookie_copyFrom r3 (u + 36) S4)))
theorem t_End_postOpening (scr : Nat × (Nat → Int32)) (u : Nat) (a1 : Int32) (S T : St) {x : St} {o : Option iV × SS} (hx : f_End_postOpening u a1 S = some x) (hG : (none, (x, T)) = o) : E0 scr 4 93 [vR 3 u, vI a1] (S, T) o := by
  refine ev_meth (ls := [some (vR 3 u), some (vI a1), none]) rfl rfl rfl ?_
  unfold f_End_postOpening at hx
  refine ev_steps 3 (c' := (5, [some (vR 3 u), some (vI a1), none], [vI (1 : Int32), vI (S cEnd_state u 0)])) (h' := (S, T)) rfl ?_
  refine ev_icmp_ne rfl (fun hc => ?_) (fun hc => ?_)
  · rw [if_pos hc] at hx
    refine ev_steps 3 (c' := (11, [some (vR 3 u), some (vI a1), none], [vI (0 : Int32), vI a1, vR 3 u])) (h' := (S, T)) rfl ?_
    obtain ⟨r5, S6, hc, hx⟩ := bd2_some hx
    refine ev_call rfl rfl rfl rfl rfl rfl rfl rfl rfl ((t_End_post scr u a1 (0 : Int32) S T hc rfl).mono (by decide)) ?_
    refine ev_steps 9 (c' := (47, [some (vR 3 u), some (vI a1), some (vR 6 r5)], [])) (h' := (up3 (up3 S6 cPacket_tag r5 0 (0 : Int32)) cPacket_newTag r5 0 (S6 cEnd_ownTag u 0), T)) rfl ?_
    cases hx
    subst hG
    exact ev_ret rfl rfl
  · rw [if_neg hc] at hx
    refine ev_steps 3 (c' := (34, [some (vR 3 u), some (vI a1), none], [vI (2 : Int32), vI a1, vR 3 u])) (h' := (S, T)) rfl ?_
    obtain ⟨r3, S4, hc, hx⟩ := bd2_some hx
    refine ev_call rfl rfl rfl rfl rfl rfl rfl rfl rfl ((t_End_post scr u a1 (2 : Int32) S T hc rfl).mono (by decide)) ?_
    refine ev_steps 3 (c' := (44, [some (vR 3 u), some (vI a1), none], [vR 2 (u + 36), vR 2 r3])) (h' := (S4, T)) rfl ?_
    refine ev_call rfl rfl rfl rfl rfl rfl rfl rfl rfl ((t_Cookie_copyFrom scr r3 (u + 36) S4 T rfl).mono (by decide)) ?_
    refine ev_steps 0 (c' := (47, [some (vR 3 u), some (vI a1), none], [])) (h' := ((f_Cookie_copyFrom r3 (u + 36) S4), T)) rfl ?_
    cases hx
    subst hG
    exact ev_ret rfl rfl
-- End_startOpening
def f_End_startOpening (u : Nat) (a1 : Int32) (a2 : Int32) (S : St) : Option (St) :=
  bd (f_End_postOpening u (0 : Int32) (f_End_startTries u a2 (up3 (up3 S cEnd_state u 0 (1 : Int32)) cEnd_ownTag u 0 a1))) (fun S8 => some S8)
theorem t_End_startOpening (scr : Nat × (Nat → Int32)) (u : Nat) (a1 : Int32) (a2 : Int32) (S T : St) {x : St} {o : Option iV × SS} (hx : f_End_startOpening u a1 a2 S = some x) (hG : (none, (x, T)) = o) : E0 scr 5 78 [vR 3 u, vI a1, vI a2] (S, T) o := by
  refine ev_meth (ls := [some (vR 3 u), some (vI a1), some (vI a2)]) rfl rfl rfl ?_
  unfold f_End_startOpening at hx
  refine ev_steps 8 (c' := (12, [some (vR 3 u), some (vI a1), some (vI a2)], [vI a2, vR 3 u])) (h' := (up3 (up3 S cEnd_state u 0 (1 : Int32)) cEnd_ownTag u 0 a1, T)) rfl ?_
  refine ev_call rfl rfl rfl rfl rfl rfl rfl rfl rfl ((t_End_startTries scr u a2 (up3 (up3 S cEnd_state u 0 (1 : Int32)) cEnd_ownTag u 0 a1) T rfl).mono (by decide)) ?_
  refine ev_steps 2 (c' := (17, [some (vR 3 u), some (vI a1), some (vI a2)], [vI (0 : Int32), vR 3 u])) (h' := ((f_End_startTries u a2 (up3 (up3 S cEnd_state u 0 (1 : Int32)) cEnd_ownTag u 0 a1)), T)) rfl ?_
  obtain ⟨S8, hc, hx⟩ := bd_some hx
  refine ev_call rfl rfl rfl rfl rfl rfl rfl rfl rfl ((t_End_postOpening scr u (0 : Int32) (f_End_startTries u a2 (up3 (up3 S cEnd_state u 0 (1 : Int32)) cEnd_ownTag u 0 a1)) T hc rfl).mono (by decide)) ?_
  refine ev_steps 0 (c' := (20, [some (vR 3 u), some (vI a1), some (vI a2)], [])) (h' := (S8, T)) rfl ?_
  cases hx
  subst hG
  exact ev_ret rfl rfl
-- L_open
def f_L_open_29 (S : St) : Option (Int32 × St) :=
  some ((0 : Int32), S)
theorem t_L_open_29 (scr : Nat × (Nat → Int32)) (S : St) (T : St) (d0 d1 d2 : Option iV) {x : Int32 × St} {o : Option iV × SS} (hx : f_L_open_29 S = some x) (hG : (fun x => (some (vI x.1), (x.2, T)) = o) x) : EB scr 5 0 2 cd_L_open (29, [d0, d1, d2], []) (S, T) o := by
  unfold f_L_open_29 at hx
  try dsimp only at hG
  refine ev_steps 1 (c' := (30, [_, _, _], [vI (0 : Int32)])) (h' := (S, T)) rfl ?_
  cases hx
  subst hG
  exact ev_ret rfl rfl
def f_L_open (u : Nat) (a1 : Int32) (S : St) : Option (Int32 × St) :=
  if inb (0 : Int32) 2 = true then if (S cEnd_state (ix (0 : Int32)) 0) = 0 then (if a1 = 0 then f_L_open_29 S else (bd2 (f_TagList_add u a1 S) (fun r9 S10 => if r9 = 0 then f_L_open_29 S10 else (bd (f_End_startOpening (ix (0 : Int32)) a1 (S10 cL_now u 0) S10) (fun S12 => some ((1 : Int32), S12)))))) else f_L_open_29 S else none
theorem t_L_open (scr : Nat × (Nat → Int32)) (u : Nat) (a1 : Int32) (S T : St) {x : Int32 × St} {o : Option iV × SS} (hx : f_L_open u a1 S = some x) (hG : (some (vI x.1), (x.2, T)) = o) : E0 scr 6 2 [vR 0 u, vI a1] (S, T) o := by
  refine ev_meth (ls := [some (vR 0 u), some (vI a1), none]) rfl rfl rfl ?_
  unfold f_L_open at hx
  refine ev_steps 3 (c' := (5, [some (vR 0 u), some (vI a1), none], [vI (0 : Int32), vR 64 u])) (h' := (S, T)) rfl ?_
  obtain ⟨hg, hx⟩ := ifg hx
  refine ev_aald2 rfl rfl hg ?_
  refine ev_steps 3 (c' := (11, [some (vR 0 u), some (vI a1), some (vR 3 (ix (0 : Int32)))], [vI (S cEnd_state (ix (0 : Int32)) 0)])) (h' := (S, T)) rfl ?_
  refine ev_if_ne rfl (fun hc => ?_) (fun hc => ?_)
  · rw [if_pos hc] at hx
    refine ev_steps 1 (c' := (15, [some (vR 0 u), some (vI a1), some (vR 3 (ix (0 : Int32)))], [vI a1])) (h' := (S, T)) rfl ?_
    refine ev_if_eq rfl (fun hc => ?_) (fun hc => ?_)
    · rw [if_pos hc] at hx
      exact t_L_open_29 scr S T _ _ _ hx hG
    · rw [if_neg hc] at hx
      refine ev_steps 3 (c' := (23, [some (vR 0 u), some (vI a1), some (vR 3 (ix (0 : Int32)))], [vI a1, vR 11 u])) (h' := (S, T)) rfl ?_
      obtain ⟨r9, S10, hc, hx⟩ := bd2_some hx
      refine ev_call rfl rfl rfl rfl rfl rfl rfl rfl rfl ((t_TagList_add scr u a1 S T hc rfl).mono (by decide)) ?_
      refine ev_steps 0 (c' := (26, [some (vR 0 u), some (vI a1), some (vR 3 (ix (0 : Int32)))], [vI r9])) (h' := (S10, T)) rfl ?_
      refine ev_if_ne rfl (fun hc => ?_) (fun hc => ?_)
      · rw [if_pos hc] at hx
        exact t_L_open_29 scr S10 T _ _ _ hx hG
      · rw [if_neg hc] at hx
        refine ev_steps 4 (c' := (37, [some (vR 0 u), some (vI a1), some (vR 3 (ix (0 : Int32)))], [vI (S10 cL_now u 0), vI a1, vR 3 (ix (0 : Int32))])) (h' := (S10, T)) rfl ?_
        obtain ⟨S12, hc, hx⟩ := bd_some hx
        refine ev_call rfl rfl rfl rfl rfl rfl rfl rfl rfl ((t_End_startOpening scr (ix (0 : Int32)) a1 (S10 cL_now u 0) S10 T hc rfl).mono (by decide)) ?_
        refine ev_steps 1 (c' := (41, [some (vR 0 u), some (vI a1), some (vR 3 (ix (0 : Int32)))], [vI (1 : Int32)])) (h' := (S12, T)) rfl ?_
        cases hx
        subst hG
        exact ev_ret rfl rfl
  · rw [if_neg hc] at hx
    exact t_L_open_29 scr S T _ _ _ hx hG
-- L_isEnd
def f_L_isEnd_13 : Int32 :=
  (0 : Int32)
theorem t_L_isEnd_13 (scr : Nat × (Nat → Int32)) (S : St) (T : St) (d0 : Option iV) {o : Option iV × SS} (hG : (fun x => (some (vI x), (S, T)) = o) (f_L_isEnd_13)) : EB scr 0 0 2 cd_L_isEnd (13, [d0], []) (S, T) o := by
  unfold f_L_isEnd_13 at hG
  try dsimp only at hG
  refine ev_steps 1 (c' := (14, [_], [vI (0 : Int32)])) (h' := (S, T)) rfl ?_
  subst hG
  exact ev_ret rfl rfl
def f_L_isEnd (a0 : Int32) : Int32 :=
  if a0 < 0 then f_L_isEnd_13 else (if a0 < (2 : Int32) then (1 : Int32) else f_L_isEnd_13)
theorem t_L_isEnd (scr : Nat × (Nat → Int32)) (a0 : Int32) (S T : St) {o : Option iV × SS} (hG : (some (vI (f_L_isEnd a0)), (S, T)) = o) : E0 scr 1 17 [vI a0] (S, T) o := by
  refine ev_meth (ls := [some (vI a0)]) rfl rfl rfl ?_
  unfold f_L_isEnd at hG
  refine ev_steps 1 (c' := (1, [some (vI a0)], [vI a0])) (h' := (S, T)) rfl ?_
  refine ev_if_lt rfl (fun hc => ?_) (fun hc => ?_)
  · rw [if_pos hc] at hG
    exact t_L_isEnd_13 scr S T _ hG
  · rw [if_neg hc] at hG
    refine ev_steps 2 (c' := (6, [some (vI a0)], [vI (2 : Int32), vI a0])) (h' := (S, T)) rfl ?_
    refine ev_icmp_ge rfl (fun hc => ?_) (fun hc => ?_)
    · rw [if_pos hc] at hG
      refine ev_steps 2 (c' := (14, [some (vI a0)], [vI (1 : Int32)])) (h' := (S, T)) rfl ?_
      subst hG
      exact ev_ret rfl rfl
    · rw [if_neg hc] at hG
      exact t_L_isEnd_13 scr S T _ hG
-- L_isStream
def f_L_isStream_13 : Int32 :=
  (0 : Int32)
theorem t_L_isStream_13 (scr : Nat × (Nat → Int32)) (S : St) (T : St) (d0 : Option iV) {o : Option iV × SS} (hG : (fun x => (some (vI x), (S, T)) = o) (f_L_isStream_13)) : EB scr 0 0 2 cd_L_isStream (13, [d0], []) (S, T) o := by
  unfold f_L_isStream_13 at hG
  try dsimp only at hG
  refine ev_steps 1 (c' := (14, [_], [vI (0 : Int32)])) (h' := (S, T)) rfl ?_
  subst hG
  exact ev_ret rfl rfl
def f_L_isStream (a0 : Int32) : Int32 :=
  if a0 < 0 then f_L_isStream_13 else (if a0 < (3 : Int32) then (1 : Int32) else f_L_isStream_13)
theorem t_L_isStream (scr : Nat × (Nat → Int32)) (a0 : Int32) (S T : St) {o : Option iV × SS} (hG : (some (vI (f_L_isStream a0)), (S, T)) = o) : E0 scr 1 19 [vI a0] (S, T) o := by
  refine ev_meth (ls := [some (vI a0)]) rfl rfl rfl ?_
  unfold f_L_isStream at hG
  refine ev_steps 1 (c' := (1, [some (vI a0)], [vI a0])) (h' := (S, T)) rfl ?_
  refine ev_if_lt rfl (fun hc => ?_) (fun hc => ?_)
  · rw [if_pos hc] at hG
    exact t_L_isStream_13 scr S T _ hG
  · rw [if_neg hc] at hG
    refine ev_steps 2 (c' := (6, [some (vI a0)], [vI (3 : Int32), vI a0])) (h' := (S, T)) rfl ?_
    refine ev_icmp_ge rfl (fun hc => ?_) (fun hc => ?_)
    · rw [if_pos hc] at hG
      refine ev_steps 2 (c' := (14, [some (vI a0)], [vI (1 : Int32)])) (h' := (S, T)) rfl ?_
      subst hG
      exact ev_ret rfl rfl
    · rw [if_neg hc] at hG
      exact t_L_isStream_13 scr S T _ hG
-- Outbox_count
def f_Outbox_count (u : Nat) (S : St) : Int32 :=
  (S cOutbox_nextNumber u 0) - (S cOutbox_firstNumber u 0)
theorem t_Outbox_count (scr : Nat × (Nat → Int32)) (u : Nat) (S T : St) {o : Option iV × SS} (hG : (some (vI (f_Outbox_count u S)), (S, T)) = o) : E0 scr 1 124 [vR 5 u] (S, T) o := by
  refine ev_meth (ls := [some (vR 5 u)]) rfl rfl rfl ?_
  unfold f_Outbox_count at hG
  refine ev_steps 5 (c' := (9, [some (vR 5 u)], [vI ((S cOutbox_nextNumber u 0) - (S cOutbox_firstNumber u 0))])) (h' := (S, T)) rfl ?_
  subst hG
  exact ev_ret rfl rfl
-- Math_floorMod
def f_Math_floorMod_18 (l2 : Int32) : Option (Int32) :=
  some l2
theorem t_Math_floorMod_18 (scr : Nat × (Nat → Int32)) (l2 : Int32) (S T : St) (d0 d1 : Option iV) {x : Int32} {o : Option iV × SS} (hx : f_Math_floorMod_18 l2 = some x) (hG : (fun x => (some (vI x), (S, T)) = o) x) : EB scr 0 14 1 cd_Math_floorMod (18, [d0, d1, some (vI l2)], []) (S, T) o := by
  unfold f_Math_floorMod_18 at hx
  try dsimp only at hG
  refine ev_steps 1 (c' := (19, [_, _, some (vI l2)], [vI l2])) (h' := (S, T)) rfl ?_
  cases hx
  subst hG
  exact ev_ret rfl rfl
def f_Math_floorMod (a0 : Int32) (a1 : Int32) : Option (Int32) :=
  if a1 = 0 then none else if (a0 ^^^ a1) < 0 then (if (iRem a0 a1) = 0 then f_Math_floorMod_18 (iRem a0 a1) else some ((iRem a0 a1) + a1)) else f_Math_floorMod_18 (iRem a0 a1)
theorem t_Math_floorMod (scr : Nat × (Nat → Int32)) (a0 : Int32) (a1 : Int32) (S T : St) {x : Int32} {o : Option iV × SS} (hx : f_Math_floorMod a0 a1 = some x) (hG : (some (vI x), (S, T)) = o) : E0 scr 1 157 [vI a0, vI a1] (S, T) o := by
  refine ev_meth (ls := [some (vI a0), some (vI a1), none]) rfl rfl rfl ?_
  unfold f_Math_floorMod at hx
  refine ev_steps 2 (c' := (2, [some (vI a0), some (vI a1), none], [vI a1, vI a0])) (h' := (S, T)) rfl ?_
  obtain ⟨hg, hx⟩ := ifn hx
  refine ev_divr rfl hg ?_
  refine ev_steps 4 (c' := (7, [some (vI a0), some (vI a1), some (vI (iRem a0 a1))], [vI (a0 ^^^ a1)])) (h' := (S, T)) rfl ?_
  refine ev_if_ge rfl (fun hc => ?_) (fun hc => ?_)
  · rw [if_pos hc] at hx
    refine ev_steps 1 (c' := (11, [some (vI a0), some (vI a1), some (vI (iRem a0 a1))], [vI (iRem a0 a1)])) (h' := (S, T)) rfl ?_
    refine ev_if_eq rfl (fun hc => ?_) (fun hc => ?_)
    · rw [if_pos hc] at hx
      exact t_Math_floorMod_18 scr (iRem a0 a1) S T _ _ hx hG
    · rw [if_neg hc] at hx
      refine ev_steps 3 (c' := (17, [some (vI a0), some (vI a1), some (vI (iRem a0 a1))], [vI ((iRem a0 a1) + a1)])) (h' := (S, T)) rfl ?_
      cases hx
      subst hG
      exact ev_ret rfl rfl
  · rw [if_neg hc] at hx
    exact t_Math_floorMod_18 scr (iRem a0 a1) S T _ _ hx hG
-- Outbox_at
def f_Outbox_at (u : Nat) (a1 : Int32) : Option (Nat) :=
  bd (f_Math_floorMod a1 (24 : Int32)) (fun r13 => if inb r13 24 = true then some (24 * u + ix r13) else none)
theorem t_Outbox_at (scr : Nat × (Nat → Int32)) (u : Nat) (a1 : Int32) (S T : St) {x : Nat} {o : Option iV × SS} (hx : f_Outbox_at u a1 = some x) (hG : (some (vR 10 x), (S, T)) = o) : E0 scr 2 126 [vR 5 u, vI a1] (S, T) o := by
  refine ev_meth (ls := [some (vR 5 u), some (vI a1)]) rfl rfl rfl ?_
  unfold f_Outbox_at at hx
  refine ev_steps 4 (c' := (7, [some (vR 5 u), some (vI a1)], [vI (24 : Int32), vI a1, vR 68 u])) (h' := (S, T)) rfl ?_
  obtain ⟨r13, hc, hx⟩ := bd_some hx
  refine ev_call rfl rfl rfl rfl rfl rfl rfl rfl rfl ((t_Math_floorMod scr a1 (24 : Int32) S T hc rfl).mono (by decide)) ?_
  refine ev_steps 0 (c' := (10, [some (vR 5 u), some (vI a1)], [vI r13, vR 68 u])) (h' := (S, T)) rfl ?_
  obtain ⟨hg, hx⟩ := ifg hx
  refine ev_aald3 rfl rfl hg ?_
  refine ev_steps 0 (c' := (11, [some (vR 5 u), some (vI a1)], [vR 10 (24 * u + ix r13)])) (h' := (S, T)) rfl ?_
  cases hx
  subst hG
  exact ev_ret rfl rfl
-- Outbox_addMessage
def f_Outbox_addMessage_116 (l0 : Nat) (l1 : Int32) (l2 : Int32) (l3 : Int32) (l4 : Int32) (l5 : Int32) (l6 : Int32) (l7 : Nat) (s0 : Nat) (s1 : Int32) (S : St) : Option ((Int32 × St) ⊕ (St)) :=
  if iIsB s1 = true then if iIsB l2 = true then some (Sum.inl (l6 + (1 : Int32), up3 (up3 (up3 (up3 (up3 (up3 S cWord_last s0 0 s1) cWord_unordered (l7 + 36) 0 l2) cSentWord_state l7 0 (1 : Int32)) cSentWord_lastPath l7 0 (0 : Int32)) cSentWord_strikes l7 0 (0 : Int32)) cOutbox_nextNumber l0 0 ((S cOutbox_nextNumber l0 0) + (1 : Int32)))) else none else none
theorem t_Outbox_addMessage_116 (scr : Nat × (Nat → Int32)) (l0 : Nat) (l1 : Int32) (l2 : Int32) (l3 : Int32) (l4 : Int32) (l5 : Int32) (l6 : Int32) (l7 : Nat) (s0 : Nat) (s1 : Int32) (S : St) (T : St) {x : (Int32 × St) ⊕ (St)} {o : Option iV × SS} (hx : f_Outbox_addMessage_116 l0 l1 l2 l3 l4 l5 l6 l7 s0 s1 S = some x) (hG : (Sum.elim (fun q => ∀ d7 : Option iV, EB scr 2 5 0 cd_Outbox_addMessage (19, [some (vR 5 l0), some (vI l1), some (vI l2), some (vI l3), some (vI l4), some (vI l5), some (vI q.1), d7], []) (q.2, T) o) (fun x => (none, (x, T)) = o)) x) : EB scr 2 5 0 cd_Outbox_addMessage (116, [some (vR 5 l0), some (vI l1), some (vI l2), some (vI l3), some (vI l4), some (vI l5), some (vI l6), some (vR 10 l7)], [vI s1, vR 12 s0]) (S, T) o := by
  unfold f_Outbox_addMessage_116 at hx
  try dsimp only at hG
  obtain ⟨hg, hx⟩ := ifg hx
  refine ev_putz rfl rfl rfl hg ?_
  refine ev_steps 3 (c' := (125, [some (vR 5 l0), some (vI l1), some (vI l2), some (vI l3), some (vI l4), some (vI l5), some (vI l6), some (vR 10 l7)], [vI l2, vR 12 (l7 + 36)])) (h' := (up3 S cWord_last s0 0 s1, T)) rfl ?_
  obtain ⟨hg, hx⟩ := ifg hx
  refine ev_putz rfl rfl rfl hg ?_
  refine ev_steps 17 (c' := (19, [some (vR 5 l0), some (vI l1), some (vI l2), some (vI l3), some (vI l4), some (vI l5), some (vI (l6 + (1 : Int32))), some (vR 10 l7)], [])) (h' := (up3 (up3 (up3 (up3 (up3 (up3 S cWord_last s0 0 s1) cWord_unordered (l7 + 36) 0 l2) cSentWord_state l7 0 (1 : Int32)) cSentWord_lastPath l7 0 (0 : Int32)) cSentWord_strikes l7 0 (0 : Int32)) cOutbox_nextNumber l0 0 ((S cOutbox_nextNumber l0 0) + (1 : Int32)), T)) rfl ?_
  cases hx
  exact hG _
def f_Outbox_addMessage_94 (l0 : Nat) (l1 : Int32) (l2 : Int32) (l3 : Int32) (l4 : Int32) (l5 : Int32) (l6 : Int32) (l7 : Nat) (s0 : Nat) (s1 : Int32) (S : St) : Option ((Int32 × St) ⊕ (St)) :=
  if iIsB s1 = true then if l6 = (l4 - (1 : Int32)) then f_Outbox_addMessage_116 l0 l1 l2 l3 l4 l5 l6 l7 (l7 + 36) (1 : Int32) (up3 S cWord_first s0 0 s1) else f_Outbox_addMessage_116 l0 l1 l2 l3 l4 l5 l6 l7 (l7 + 36) (0 : Int32) (up3 S cWord_first s0 0 s1) else none
theorem t_Outbox_addMessage_94 (scr : Nat × (Nat → Int32)) (l0 : Nat) (l1 : Int32) (l2 : Int32) (l3 : Int32) (l4 : Int32) (l5 : Int32) (l6 : Int32) (l7 : Nat) (s0 : Nat) (s1 : Int32) (S : St) (T : St) {x : (Int32 × St) ⊕ (St)} {o : Option iV × SS} (hx : f_Outbox_addMessage_94 l0 l1 l2 l3 l4 l5 l6 l7 s0 s1 S = some x) (hG : (Sum.elim (fun q => ∀ d7 : Option iV, EB scr 2 5 0 cd_Outbox_addMessage (19, [some (vR 5 l0), some (vI l1), some (vI l2), some (vI l3), some (vI l4), some (vI l5), some (vI q.1), d7], []) (q.2, T) o) (fun x => (none, (x, T)) = o)) x) : EB scr 2 5 0 cd_Outbox_addMessage (94, [some (vR 5 l0), some (vI l1), some (vI l2), some (vI l3), some (vI l4), some (vI l5), some (vI l6), some (vR 10 l7)], [vI s1, vR 12 s0]) (S, T) o := by
  unfold f_Outbox_addMessage_94 at hx
  try dsimp only at hG
  obtain ⟨hg, hx⟩ := ifg hx
  refine ev_putz rfl rfl rfl hg ?_
  refine ev_steps 6 (c' := (108, [some (vR 5 l0), some (vI l1), some (vI l2), some (vI l3), some (vI l4), some (vI l5), some (vI l6), some (vR 10 l7)], [vI (l4 - (1 : Int32)), vI l6, vR 12 (l7 + 36)])) (h' := (up3 S cWord_first s0 0 s1, T)) rfl ?_
  refine ev_icmp_ne rfl (fun hc => ?_) (fun hc => ?_)
  · rw [if_pos hc] at hx
    refine ev_steps 2 (c' := (116, [some (vR 5 l0), some (vI l1), some (vI l2), some (vI l3), some (vI l4), some (vI l5), some (vI l6), some (vR 10 l7)], [vI (1 : Int32), vR 12 (l7 + 36)])) (h' := (up3 S cWord_first s0 0 s1, T)) rfl ?_
    exact t_Outbox_addMessage_116 scr l0 l1 l2 l3 l4 l5 l6 l7 (l7 + 36) (1 : Int32) (up3 S cWord_first s0 0 s1) T hx hG
  · rw [if_neg hc] at hx
    refine ev_steps 1 (c' := (116, [some (vR 5 l0), some (vI l1), some (vI l2), some (vI l3), some (vI l4), some (vI l5), some (vI l6), some (vR 10 l7)], [vI (0 : Int32), vR 12 (l7 + 36)])) (h' := (up3 S cWord_first s0 0 s1, T)) rfl ?_
    exact t_Outbox_addMessage_116 scr l0 l1 l2 l3 l4 l5 l6 l7 (l7 + 36) (0 : Int32) (up3 S cWord_first s0 0 s1) T hx hG
def f_Outbox_addMessage_19_b (l0 : Nat) (l1 : Int32) (l2 : Int32) (l3 : Int32) (l4 : Int32) (l5 : Int32)  : (Int32 × St) → Option ((Int32 × St) ⊕ (St))
  | (l6, S) => if l6 < l4 then (bd (f_Outbox_at l0 (S cOutbox_nextNumber l0 0)) (fun r15 => if l6 = 0 then f_Outbox_addMessage_94 l0 l1 l2 l3 l4 l5 l6 r15 (r15 + 36) (1 : Int32) (up3 (up3 (up3 (up3 S cWord_number (r15 + 36) 0 (S cOutbox_nextNumber l0 0)) cWord_value (r15 + 36) 0 (l3 + l6)) cWord_stream (r15 + 36) 0 l1) cWord_order (r15 + 36) 0 l5) else f_Outbox_addMessage_94 l0 l1 l2 l3 l4 l5 l6 r15 (r15 + 36) (0 : Int32) (up3 (up3 (up3 (up3 S cWord_number (r15 + 36) 0 (S cOutbox_nextNumber l0 0)) cWord_value (r15 + 36) 0 (l3 + l6)) cWord_stream (r15 + 36) 0 l1) cWord_order (r15 + 36) 0 l5))) else exW (if l2 = 0 then (if inb l1 3 = true then if inb l1 3 = true then some (up3 S cOutbox_nextOrders l0 (ix l1) ((S cOutbox_nextOrders l0 (ix l1)) + (1 : Int32))) else none else none) else some S)
def f_Outbox_addMessage_19 (l0 : Nat) (l1 : Int32) (l2 : Int32) (l3 : Int32) (l4 : Int32) (l5 : Int32)  (q : Int32 × St) : Option (St) := iter (f_Outbox_addMessage_19_b l0 l1 l2 l3 l4 l5) 4096 q
theorem t_Outbox_addMessage_19_b (scr : Nat × (Nat → Int32)) (l0 : Nat) (l1 : Int32) (l2 : Int32) (l3 : Int32) (l4 : Int32) (l5 : Int32) (l6 : Int32) (S : St) (T : St) (d7 : Option iV) {x : (Int32 × St) ⊕ (St)} {o : Option iV × SS} (hx : f_Outbox_addMessage_19_b l0 l1 l2 l3 l4 l5 (l6, S) = some x) (hG : (Sum.elim (fun q => ∀ d7 : Option iV, EB scr 2 5 0 cd_Outbox_addMessage (19, [some (vR 5 l0), some (vI l1), some (vI l2), some (vI l3), some (vI l4), some (vI l5), some (vI q.1), d7], []) (q.2, T) o) (fun x => (none, (x, T)) = o)) x) : EB scr 2 5 0 cd_Outbox_addMessage (19, [some (vR 5 l0), some (vI l1), some (vI l2), some (vI l3), some (vI l4), some (vI l5), some (vI l6), d7], []) (S, T) o := by
  unfold f_Outbox_addMessage_19_b at hx
  dsimp only at hx
  refine ev_steps 2 (c' := (23, [some (vR 5 l0), some (vI l1), some (vI l2), some (vI l3), some (vI l4), some (vI l5), some (vI l6), _], [vI l4, vI l6])) (h' := (S, T)) rfl ?_
  refine ev_icmp_ge rfl (fun hc => ?_) (fun hc => ?_)
  · rw [if_pos hc] at hx
    refine ev_steps 3 (c' := (31, [some (vR 5 l0), some (vI l1), some (vI l2), some (vI l3), some (vI l4), some (vI l5), some (vI l6), _], [vI (S cOutbox_nextNumber l0 0), vR 5 l0])) (h' := (S, T)) rfl ?_
    obtain ⟨r15, hc, hx⟩ := bd_some hx
    refine ev_call rfl rfl rfl rfl rfl rfl rfl rfl rfl ((t_Outbox_at scr l0 (S cOutbox_nextNumber l0 0) S T hc rfl).mono (by decide)) ?_
    refine ev_steps 23 (c' := (86, [some (vR 5 l0), some (vI l1), some (vI l2), some (vI l3), some (vI l4), some (vI l5), some (vI l6), some (vR 10 r15)], [vI l6, vR 12 (r15 + 36)])) (h' := (up3 (up3 (up3 (up3 S cWord_number (r15 + 36) 0 (S cOutbox_nextNumber l0 0)) cWord_value (r15 + 36) 0 (l3 + l6)) cWord_stream (r15 + 36) 0 l1) cWord_order (r15 + 36) 0 l5, T)) rfl ?_
    refine ev_if_ne rfl (fun hc => ?_) (fun hc => ?_)
    · rw [if_pos hc] at hx
      refine ev_steps 2 (c' := (94, [some (vR 5 l0), some (vI l1), some (vI l2), some (vI l3), some (vI l4), some (vI l5), some (vI l6), some (vR 10 r15)], [vI (1 : Int32), vR 12 (r15 + 36)])) (h' := (up3 (up3 (up3 (up3 S cWord_number (r15 + 36) 0 (S cOutbox_nextNumber l0 0)) cWord_value (r15 + 36) 0 (l3 + l6)) cWord_stream (r15 + 36) 0 l1) cWord_order (r15 + 36) 0 l5, T)) rfl ?_
      exact t_Outbox_addMessage_94 scr l0 l1 l2 l3 l4 l5 l6 r15 (r15 + 36) (1 : Int32) (up3 (up3 (up3 (up3 S cWord_number (r15 + 36) 0 (S cOutbox_nextNumber l0 0)) cWord_value (r15 + 36) 0 (l3 + l6)) cWord_stream (r15 + 36) 0 l1) cWord_order (r15 + 36) 0 l5) T hx hG
    · rw [if_neg hc] at hx
      refine ev_steps 1 (c' := (94, [some (vR 5 l0), some (vI l1), some (vI l2), some (vI l3), some (vI l4), some (vI l5), some (vI l6), some (vR 10 r15)], [vI (0 : Int32), vR 12 (r15 + 36)])) (h' := (up3 (up3 (up3 (up3 S cWord_number (r15 + 36) 0 (S cOutbox_nextNumber l0 0)) cWord_value (r15 + 36) 0 (l3 + l6)) cWord_stream (r15 + 36) 0 l1) cWord_order (r15 + 36) 0 l5, T)) rfl ?_
      exact t_Outbox_addMessage_94 scr l0 l1 l2 l3 l4 l5 l6 r15 (r15 + 36) (0 : Int32) (up3 (up3 (up3 (up3 S cWord_number (r15 + 36) 0 (S cOutbox_nextNumber l0 0)) cWord_value (r15 + 36) 0 (l3 + l6)) cWord_stream (r15 + 36) 0 l1) cWord_order (r15 + 36) 0 l5) T hx hG
  · rw [if_neg hc] at hx
    obtain ⟨x, hy, rfl⟩ := exW_some hx
    replace hx := hy
    simp only [Sum.elim_inr] at hG
    refine ev_steps 1 (c' := (163, [some (vR 5 l0), some (vI l1), some (vI l2), some (vI l3), some (vI l4), some (vI l5), some (vI l6), _], [vI l2])) (h' := (S, T)) rfl ?_
    refine ev_if_ne rfl (fun hc => ?_) (fun hc => ?_)
    · rw [if_pos hc] at hx
      refine ev_steps 4 (c' := (172, [some (vR 5 l0), some (vI l1), some (vI l2), some (vI l3), some (vI l4), some (vI l5), some (vI l6), _], [vI l1, vR 69 l0, vI l1, vR 69 l0])) (h' := (S, T)) rfl ?_
      obtain ⟨hg, hx⟩ := ifg hx
      refine ev_iald rfl rfl rfl hg ?_
      refine ev_steps 2 (c' := (175, [some (vR 5 l0), some (vI l1), some (vI l2), some (vI l3), some (vI l4), some (vI l5), some (vI l6), _], [vI ((S cOutbox_nextOrders l0 (ix l1)) + (1 : Int32)), vI l1, vR 69 l0])) (h' := (S, T)) rfl ?_
      obtain ⟨hg, hx⟩ := ifg hx
      refine ev_iast rfl rfl hg ?_
      refine ev_steps 0 (c' := (176, [some (vR 5 l0), some (vI l1), some (vI l2), some (vI l3), some (vI l4), some (vI l5), some (vI l6), _], [])) (h' := (up3 S cOutbox_nextOrders l0 (ix l1) ((S cOutbox_nextOrders l0 (ix l1)) + (1 : Int32)), T)) rfl ?_
      cases hx
      subst hG
      exact ev_ret rfl rfl
    · rw [if_neg hc] at hx
      cases hx
      subst hG
      exact ev_ret rfl rfl
theorem t_Outbox_addMessage_19 (scr : Nat × (Nat → Int32)) (l0 : Nat) (l1 : Int32) (l2 : Int32) (l3 : Int32) (l4 : Int32) (l5 : Int32) (l6 : Int32) (S : St) (T : St) (d7 : Option iV) {x : St} {o : Option iV × SS} (hx : f_Outbox_addMessage_19 l0 l1 l2 l3 l4 l5 (l6, S) = some x) (hG : (fun x => (none, (x, T)) = o) x) : EB scr 2 5 0 cd_Outbox_addMessage (19, [some (vR 5 l0), some (vI l1), some (vI l2), some (vI l3), some (vI l4), some (vI l5), some (vI l6), d7], []) (S, T) o := by
  exact iter_ind (P := fun q => ∀ d7 : Option iV, EB scr 2 5 0 cd_Outbox_addMessage (19, [some (vR 5 l0), some (vI l1), some (vI l2), some (vI l3), some (vI l4), some (vI l5), some (vI q.1), d7], []) (q.2, T) o) (G := fun x => (none, (x, T)) = o) (fun q x hb hP d7 => t_Outbox_addMessage_19_b scr l0 l1 l2 l3 l4 l5 q.1 q.2 T d7 hb hP) hx hG d7
def f_Outbox_addMessage_14 (l0 : Nat) (l1 : Int32) (l2 : Int32) (l3 : Int32) (l4 : Int32) (s0 : Int32) (S : St) : Option (St) :=
  f_Outbox_addMessage_19 l0 l1 l2 l3 l4 s0 ((0 : Int32), S)
theorem t_Outbox_addMessage_14 (scr : Nat × (Nat → Int32)) (l0 : Nat) (l1 : Int32) (l2 : Int32) (l3 : Int32) (l4 : Int32) (s0 : Int32) (S : St) (T : St) (d5 d6 d7 : Option iV) {x : St} {o : Option iV × SS} (hx : f_Outbox_addMessage_14 l0 l1 l2 l3 l4 s0 S = some x) (hG : (fun x => (none, (x, T)) = o) x) : EB scr 2 5 0 cd_Outbox_addMessage (14, [some (vR 5 l0), some (vI l1), some (vI l2), some (vI l3), some (vI l4), d5, d6, d7], [vI s0]) (S, T) o := by
  unfold f_Outbox_addMessage_14 at hx
  try dsimp only at hG
  refine ev_steps 3 (c' := (19, [some (vR 5 l0), some (vI l1), some (vI l2), some (vI l3), some (vI l4), some (vI s0), some (vI (0 : Int32)), _], [])) (h' := (S, T)) rfl ?_
  exact t_Outbox_addMessage_19 scr l0 l1 l2 l3 l4 s0 (0 : Int32) S T _ hx hG
def f_Outbox_addMessage (u : Nat) (a1 : Int32) (a2 : Int32) (a3 : Int32) (a4 : Int32) (S : St) : Option (St) :=
  if a2 = 0 then (if inb a1 3 = true then f_Outbox_addMessage_14 u a1 a2 a3 a4 (S cOutbox_nextOrders u (ix a1)) S else none) else f_Outbox_addMessage_14 u a1 a2 a3 a4 (0 : Int32) S
theorem t_Outbox_addMessage (scr : Nat × (Nat → Int32)) (u : Nat) (a1 : Int32) (a2 : Int32) (a3 : Int32) (a4 : Int32) (S T : St) {x : St} {o : Option iV × SS} (hx : f_Outbox_addMessage u a1 a2 a3 a4 S = some x) (hG : (none, (x, T)) = o) : E0 scr 3 128 [vR 5 u, vI a1, vI a2, vI a3, vI a4] (S, T) o := by
  refine ev_meth (ls := [some (vR 5 u), some (vI a1), some (vI a2), some (vI a3), some (vI a4), none, none, none]) rfl rfl rfl ?_
  unfold f_Outbox_addMessage at hx
  refine ev_steps 1 (c' := (1, [some (vR 5 u), some (vI a1), some (vI a2), some (vI a3), some (vI a4), none, none, none], [vI a2])) (h' := (S, T)) rfl ?_
  refine ev_if_eq rfl (fun hc => ?_) (fun hc => ?_)
  · rw [if_pos hc] at hx
    refine ev_steps 3 (c' := (13, [some (vR 5 u), some (vI a1), some (vI a2), some (vI a3), some (vI a4), none, none, none], [vI a1, vR 69 u])) (h' := (S, T)) rfl ?_
    obtain ⟨hg, hx⟩ := ifg hx
    refine ev_iald rfl rfl rfl hg ?_
    refine ev_steps 0 (c' := (14, [some (vR 5 u), some (vI a1), some (vI a2), some (vI a3), some (vI a4), none, none, none], [vI (S cOutbox_nextOrders u (ix a1))])) (h' := (S, T)) rfl ?_
    exact t_Outbox_addMessage_14 scr u a1 a2 a3 a4 (S cOutbox_nextOrders u (ix a1)) S T _ _ _ hx hG
  · rw [if_neg hc] at hx
    refine ev_steps 2 (c' := (14, [some (vR 5 u), some (vI a1), some (vI a2), some (vI a3), some (vI a4), none, none, none], [vI (0 : Int32)])) (h' := (S, T)) rfl ?_
    exact t_Outbox_addMessage_14 scr u a1 a2 a3 a4 (0 : Int32) S T _ _ _ hx hG
-- Outbox_firstToSend
def f_Outbox_firstToSend_32 (l1 : Int32) (S : St) : Option (Int32) :=
  some l1
theorem t_Outbox_firstToSend_32 (scr : Nat × (Nat → Int32)) (l1 : Int32) (S : St) (T : St) (d0 d2 : Option iV) {x : Int32} {o : Option iV × SS} (hx : f_Outbox_firstToSend_32 l1 S = some x) (hG : (fun x => (some (vI x), (S, T)) = o) x) : EB scr 2 5 1 cd_Outbox_firstToSend (32, [d0, some (vI l1), d2], []) (S, T) o := by
  unfold f_Outbox_firstToSend_32 at hx
  try dsimp only at hG
  refine ev_steps 1 (c' := (33, [_, some (vI l1), _], [vI l1])) (h' := (S, T)) rfl ?_
  cases hx
  subst hG
  exact ev_ret rfl rfl
def f_Outbox_firstToSend_5_b (l0 : Nat) (S : St) : (Int32) → Option ((Int32) ⊕ (Int32))
  | l1 => if l1 < (S cOutbox_nextNumber l0 0) then (bd (f_Outbox_at l0 l1) (fun r17 => if (S cSentWord_state r17 0) = (1 : Int32) then exW (f_Outbox_firstToSend_32 l1 S) else (if (S cSentWord_state r17 0) = (3 : Int32) then exW (f_Outbox_firstToSend_32 l1 S) else some (Sum.inl (l1 + (1 : Int32)))))) else exW (some (-1 : Int32))
def f_Outbox_firstToSend_5 (l0 : Nat) (S : St) (q : Int32) : Option (Int32) := iter (f_Outbox_firstToSend_5_b l0 S) 4096 q
theorem t_Outbox_firstToSend_5_b (scr : Nat × (Nat → Int32)) (l0 : Nat) (l1 : Int32) (S : St) (T : St) (d2 : Option iV) {x : (Int32) ⊕ (Int32)} {o : Option iV × SS} (hx : f_Outbox_firstToSend_5_b l0 S l1 = some x) (hG : (Sum.elim (fun q => ∀ d2 : Option iV, EB scr 2 5 1 cd_Outbox_firstToSend (5, [some (vR 5 l0), some (vI q), d2], []) (S, T) o) (fun x => (some (vI x), (S, T)) = o)) x) : EB scr 2 5 1 cd_Outbox_firstToSend (5, [some (vR 5 l0), some (vI l1), d2], []) (S, T) o := by
  unfold f_Outbox_firstToSend_5_b at hx
  dsimp only at hx
  refine ev_steps 3 (c' := (10, [some (vR 5 l0), some (vI l1), _], [vI (S cOutbox_nextNumber l0 0), vI l1])) (h' := (S, T)) rfl ?_
  refine ev_icmp_ge rfl (fun hc => ?_) (fun hc => ?_)
  · rw [if_pos hc] at hx
    refine ev_steps 2 (c' := (15, [some (vR 5 l0), some (vI l1), _], [vI l1, vR 5 l0])) (h' := (S, T)) rfl ?_
    obtain ⟨r17, hc, hx⟩ := bd_some hx
    refine ev_call rfl rfl rfl rfl rfl rfl rfl rfl rfl ((t_Outbox_at scr l0 l1 S T hc rfl).mono (by decide)) ?_
    refine ev_steps 4 (c' := (24, [some (vR 5 l0), some (vI l1), some (vI (S cSentWord_state r17 0))], [vI (1 : Int32), vI (S cSentWord_state r17 0)])) (h' := (S, T)) rfl ?_
    refine ev_icmp_eq rfl (fun hc => ?_) (fun hc => ?_)
    · rw [if_pos hc] at hx
      obtain ⟨x, hy, rfl⟩ := exW_some hx
      replace hx := hy
      simp only [Sum.elim_inr] at hG
      exact t_Outbox_firstToSend_32 scr l1 S T _ _ hx hG
    · rw [if_neg hc] at hx
      refine ev_steps 2 (c' := (29, [some (vR 5 l0), some (vI l1), some (vI (S cSentWord_state r17 0))], [vI (3 : Int32), vI (S cSentWord_state r17 0)])) (h' := (S, T)) rfl ?_
      refine ev_icmp_ne rfl (fun hc => ?_) (fun hc => ?_)
      · rw [if_pos hc] at hx
        obtain ⟨x, hy, rfl⟩ := exW_some hx
        replace hx := hy
        simp only [Sum.elim_inr] at hG
        exact t_Outbox_firstToSend_32 scr l1 S T _ _ hx hG
      · rw [if_neg hc] at hx
        refine ev_steps 2 (c' := (5, [some (vR 5 l0), some (vI (l1 + (1 : Int32))), some (vI (S cSentWord_state r17 0))], [])) (h' := (S, T)) rfl ?_
        cases hx
        exact hG _
  · rw [if_neg hc] at hx
    obtain ⟨x, hy, rfl⟩ := exW_some hx
    replace hx := hy
    simp only [Sum.elim_inr] at hG
    refine ev_steps 1 (c' := (41, [some (vR 5 l0), some (vI l1), _], [vI (-1 : Int32)])) (h' := (S, T)) rfl ?_
    cases hx
    subst hG
    exact ev_ret rfl rfl
theorem t_Outbox_firstToSend_5 (scr : Nat × (Nat → Int32)) (l0 : Nat) (l1 : Int32) (S : St) (T : St) (d2 : Option iV) {x : Int32} {o : Option iV × SS} (hx : f_Outbox_firstToSend_5 l0 S l1 = some x) (hG : (fun x => (some (vI x), (S, T)) = o) x) : EB scr 2 5 1 cd_Outbox_firstToSend (5, [some (vR 5 l0), some (vI l1), d2], []) (S, T) o := by
  exact iter_ind (P := fun q => ∀ d2 : Option iV, EB scr 2 5 1 cd_Outbox_firstToSend (5, [some (vR 5 l0), some (vI q), d2], []) (S, T) o) (G := fun x => (some (vI x), (S, T)) = o) (fun q x hb hP d2 => t_Outbox_firstToSend_5_b scr l0 q S T d2 hb hP) hx hG d2
def f_Outbox_firstToSend (u : Nat) (S : St) : Option (Int32) :=
  f_Outbox_firstToSend_5 u S (S cOutbox_firstNumber u 0)
theorem t_Outbox_firstToSend (scr : Nat × (Nat → Int32)) (u : Nat) (S T : St) {x : Int32} {o : Option iV × SS} (hx : f_Outbox_firstToSend u S = some x) (hG : (some (vI x), (S, T)) = o) : E0 scr 3 129 [vR 5 u] (S, T) o := by
  refine ev_meth (ls := [some (vR 5 u), none, none]) rfl rfl rfl ?_
  unfold f_Outbox_firstToSend at hx
  refine ev_steps 3 (c' := (5, [some (vR 5 u), some (vI (S cOutbox_firstNumber u 0)), none], [])) (h' := (S, T)) rfl ?_
  exact t_Outbox_firstToSend_5 scr u (S cOutbox_firstNumber u 0) S T _ hx hG
-- End_pathToUse
def f_End_pathToUse_38 (l0 : Nat) (S : St) : Option (Int32) :=
  some (S cEnd_primaryPath l0 0)
theorem t_End_pathToUse_38 (scr : Nat × (Nat → Int32)) (l0 : Nat) (S : St) (T : St) (d1 : Option iV) {x : Int32} {o : Option iV × SS} (hx : f_End_pathToUse_38 l0 S = some x) (hG : (fun x => (some (vI x), (S, T)) = o) x) : EB scr 0 3 1 cd_End_pathToUse (38, [some (vR 3 l0), d1], []) (S, T) o := by
  unfold f_End_pathToUse_38 at hx
  try dsimp only at hG
  refine ev_steps 2 (c' := (42, [some (vR 3 l0), _], [vI (S cEnd_primaryPath l0 0)])) (h' := (S, T)) rfl ?_
  cases hx
  subst hG
  exact ev_ret rfl rfl
def f_End_pathToUse (u : Nat) (S : St) : Option (Int32) :=
  if inb (S cEnd_primaryPath u 0) 2 = true then if (nz (S cPath_active (2 * u + ix (S cEnd_primaryPath u 0)) 0)) = 0 then (if inb ((1 : Int32) - (S cEnd_primaryPath u 0)) 2 = true then if (nz (S cPath_active (2 * u + ix ((1 : Int32) - (S cEnd_primaryPath u 0))) 0)) = 0 then f_End_pathToUse_38 u S else some ((1 : Int32) - (S cEnd_primaryPath u 0)) else none) else f_End_pathToUse_38 u S else none
theorem t_End_pathToUse (scr : Nat × (Nat → Int32)) (u : Nat) (S T : St) {x : Int32} {o : Option iV × SS} (hx : f_End_pathToUse u S = some x) (hG : (some (vI x), (S, T)) = o) : E0 scr 1 88 [vR 3 u] (S, T) o := by
  refine ev_meth (ls := [some (vR 3 u), none]) rfl rfl rfl ?_
  unfold f_End_pathToUse at hx
  refine ev_steps 9 (c' := (15, [some (vR 3 u), some (vI ((1 : Int32) - (S cEnd_primaryPath u 0)))], [vI (S cEnd_primaryPath u 0), vR 67 u])) (h' := (S, T)) rfl ?_
  obtain ⟨hg, hx⟩ := ifg hx
  refine ev_aald3 rfl rfl hg ?_
  refine ev_steps 1 (c' := (19, [some (vR 3 u), some (vI ((1 : Int32) - (S cEnd_primaryPath u 0)))], [vI (nz (S cPath_active (2 * u + ix (S cEnd_primaryPath u 0)) 0))])) (h' := (S, T)) rfl ?_
  refine ev_if_ne rfl (fun hc => ?_) (fun hc => ?_)
  · rw [if_pos hc] at hx
    refine ev_steps 3 (c' := (27, [some (vR 3 u), some (vI ((1 : Int32) - (S cEnd_primaryPath u 0)))], [vI ((1 : Int32) - (S cEnd_primaryPath u 0)), vR 67 u])) (h' := (S, T)) rfl ?_
    obtain ⟨hg, hx⟩ := ifg hx
    refine ev_aald3 rfl rfl hg ?_
    refine ev_steps 1 (c' := (31, [some (vR 3 u), some (vI ((1 : Int32) - (S cEnd_primaryPath u 0)))], [vI (nz (S cPath_active (2 * u + ix ((1 : Int32) - (S cEnd_primaryPath u 0))) 0))])) (h' := (S, T)) rfl ?_
    refine ev_if_eq rfl (fun hc => ?_) (fun hc => ?_)
    · rw [if_pos hc] at hx
      exact t_End_pathToUse_38 scr u S T _ hx hG
    · rw [if_neg hc] at hx
      refine ev_steps 2 (c' := (42, [some (vR 3 u), some (vI ((1 : Int32) - (S cEnd_primaryPath u 0)))], [vI ((1 : Int32) - (S cEnd_primaryPath u 0))])) (h' := (S, T)) rfl ?_
      cases hx
      subst hG
      exact ev_ret rfl rfl
  · rw [if_neg hc] at hx
    exact t_End_pathToUse_38 scr u S T _ hx hG
-- End_pathFor
def f_End_pathFor_31 (l0 : Nat) (S : St) : Option (Int32) :=
  bd (f_End_pathToUse l0 S) (fun r19 => some r19)
theorem t_End_pathFor_31 (scr : Nat × (Nat → Int32)) (l0 : Nat) (S : St) (T : St) (d1 d2 : Option iV) {x : Int32} {o : Option iV × SS} (hx : f_End_pathFor_31 l0 S = some x) (hG : (fun x => (some (vI x), (S, T)) = o) x) : EB scr 1 3 1 cd_End_pathFor (31, [some (vR 3 l0), d1, d2], []) (S, T) o := by
  unfold f_End_pathFor_31 at hx
  try dsimp only at hG
  refine ev_steps 1 (c' := (32, [some (vR 3 l0), _, _], [vR 3 l0])) (h' := (S, T)) rfl ?_
  obtain ⟨r19, hc, hx⟩ := bd_some hx
  refine ev_call rfl rfl rfl rfl rfl rfl rfl rfl rfl ((t_End_pathToUse scr l0 S T hc rfl).mono (by decide)) ?_
  refine ev_steps 0 (c' := (35, [some (vR 3 l0), _, _], [vI r19])) (h' := (S, T)) rfl ?_
  cases hx
  subst hG
  exact ev_ret rfl rfl
def f_End_pathFor (u : Nat) (u1 : Nat) (S : St) : Option (Int32) :=
  if (S cSentWord_state u1 0) = (3 : Int32) then (if inb ((1 : Int32) - (S cSentWord_lastPath u1 0)) 2 = true then if (nz (S cPath_active (2 * u + ix ((1 : Int32) - (S cSentWord_lastPath u1 0))) 0)) = 0 then f_End_pathFor_31 u S else some ((1 : Int32) - (S cSentWord_lastPath u1 0)) else none) else f_End_pathFor_31 u S
theorem t_End_pathFor (scr : Nat × (Nat → Int32)) (u : Nat) (u1 : Nat) (S T : St) {x : Int32} {o : Option iV × SS} (hx : f_End_pathFor u u1 S = some x) (hG : (some (vI x), (S, T)) = o) : E0 scr 2 103 [vR 3 u, vR 10 u1] (S, T) o := by
  refine ev_meth (ls := [some (vR 3 u), some (vR 10 u1), none]) rfl rfl rfl ?_
  unfold f_End_pathFor at hx
  refine ev_steps 8 (c' := (12, [some (vR 3 u), some (vR 10 u1), some (vI ((1 : Int32) - (S cSentWord_lastPath u1 0)))], [vI (3 : Int32), vI (S cSentWord_state u1 0)])) (h' := (S, T)) rfl ?_
  refine ev_icmp_ne rfl (fun hc => ?_) (fun hc => ?_)
  · rw [if_pos hc] at hx
    refine ev_steps 3 (c' := (20, [some (vR 3 u), some (vR 10 u1), some (vI ((1 : Int32) - (S cSentWord_lastPath u1 0)))], [vI ((1 : Int32) - (S cSentWord_lastPath u1 0)), vR 67 u])) (h' := (S, T)) rfl ?_
    obtain ⟨hg, hx⟩ := ifg hx
    refine ev_aald3 rfl rfl hg ?_
    refine ev_steps 1 (c' := (24, [some (vR 3 u), some (vR 10 u1), some (vI ((1 : Int32) - (S cSentWord_lastPath u1 0)))], [vI (nz (S cPath_active (2 * u + ix ((1 : Int32) - (S cSentWord_lastPath u1 0))) 0))])) (h' := (S, T)) rfl ?_
    refine ev_if_eq rfl (fun hc => ?_) (fun hc => ?_)
    · rw [if_pos hc] at hx
      exact t_End_pathFor_31 scr u S T _ _ hx hG
    · rw [if_neg hc] at hx
      refine ev_steps 2 (c' := (35, [some (vR 3 u), some (vR 10 u1), some (vI ((1 : Int32) - (S cSentWord_lastPath u1 0)))], [vI ((1 : Int32) - (S cSentWord_lastPath u1 0))])) (h' := (S, T)) rfl ?_
      cases hx
      subst hG
      exact ev_ret rfl rfl
  · rw [if_neg hc] at hx
    exact t_End_pathFor_31 scr u S T _ _ hx hG
-- Outbox_countOut
def f_Outbox_countOut_42 (l0 : Nat) (l1 : Int32) (l2 : Int32) (l3 : Int32) (S : St) : Option ((Int32 × Int32) ⊕ (Int32)) :=
  some (Sum.inl (l2, l3 + (1 : Int32)))
theorem t_Outbox_countOut_42 (scr : Nat × (Nat → Int32)) (l0 : Nat) (l1 : Int32) (l2 : Int32) (l3 : Int32) (S : St) (T : St) {x : (Int32 × Int32) ⊕ (Int32)} {o : Option iV × SS} (hx : f_Outbox_countOut_42 l0 l1 l2 l3 S = some x) (hG : (Sum.elim (fun q => EB scr 2 5 1 cd_Outbox_countOut (7, [some (vR 5 l0), some (vI l1), some (vI q.1), some (vI q.2)], []) (S, T) o) (fun x => (some (vI x), (S, T)) = o)) x) : EB scr 2 5 1 cd_Outbox_countOut (42, [some (vR 5 l0), some (vI l1), some (vI l2), some (vI l3)], []) (S, T) o := by
  unfold f_Outbox_countOut_42 at hx
  try dsimp only at hG
  refine ev_steps 2 (c' := (7, [some (vR 5 l0), some (vI l1), some (vI l2), some (vI (l3 + (1 : Int32)))], [])) (h' := (S, T)) rfl ?_
  cases hx
  exact hG
def f_Outbox_countOut_7_b (l0 : Nat) (l1 : Int32) (S : St) : (Int32 × Int32) → Option ((Int32 × Int32) ⊕ (Int32))
  | (l2, l3) => if l3 < (S cOutbox_nextNumber l0 0) then (bd (f_Outbox_at l0 l3) (fun r21 => if (S cSentWord_state r21 0) = (2 : Int32) then (bd (f_Outbox_at l0 l3) (fun r23 => if (S cSentWord_lastPath r23 0) = l1 then f_Outbox_countOut_42 l0 l1 (l2 + (1 : Int32)) l3 S else f_Outbox_countOut_42 l0 l1 l2 l3 S)) else f_Outbox_countOut_42 l0 l1 l2 l3 S)) else exW (some l2)
def f_Outbox_countOut_7 (l0 : Nat) (l1 : Int32) (S : St) (q : Int32 × Int32) : Option (Int32) := iter (f_Outbox_countOut_7_b l0 l1 S) 4096 q
theorem t_Outbox_countOut_7_b (scr : Nat × (Nat → Int32)) (l0 : Nat) (l1 : Int32) (l2 : Int32) (l3 : Int32) (S : St) (T : St) {x : (Int32 × Int32) ⊕ (Int32)} {o : Option iV × SS} (hx : f_Outbox_countOut_7_b l0 l1 S (l2, l3) = some x) (hG : (Sum.elim (fun q => EB scr 2 5 1 cd_Outbox_countOut (7, [some (vR 5 l0), some (vI l1), some (vI q.1), some (vI q.2)], []) (S, T) o) (fun x => (some (vI x), (S, T)) = o)) x) : EB scr 2 5 1 cd_Outbox_countOut (7, [some (vR 5 l0), some (vI l1), some (vI l2), some (vI l3)], []) (S, T) o := by
  unfold f_Outbox_countOut_7_b at hx
  dsimp only at hx
  refine ev_steps 3 (c' := (12, [some (vR 5 l0), some (vI l1), some (vI l2), some (vI l3)], [vI (S cOutbox_nextNumber l0 0), vI l3])) (h' := (S, T)) rfl ?_
  refine ev_icmp_ge rfl (fun hc => ?_) (fun hc => ?_)
  · rw [if_pos hc] at hx
    refine ev_steps 2 (c' := (17, [some (vR 5 l0), some (vI l1), some (vI l2), some (vI l3)], [vI l3, vR 5 l0])) (h' := (S, T)) rfl ?_
    obtain ⟨r21, hc, hx⟩ := bd_some hx
    refine ev_call rfl rfl rfl rfl rfl rfl rfl rfl rfl ((t_Outbox_at scr l0 l3 S T hc rfl).mono (by decide)) ?_
    refine ev_steps 2 (c' := (24, [some (vR 5 l0), some (vI l1), some (vI l2), some (vI l3)], [vI (2 : Int32), vI (S cSentWord_state r21 0)])) (h' := (S, T)) rfl ?_
    refine ev_icmp_ne rfl (fun hc => ?_) (fun hc => ?_)
    · rw [if_pos hc] at hx
      refine ev_steps 2 (c' := (29, [some (vR 5 l0), some (vI l1), some (vI l2), some (vI l3)], [vI l3, vR 5 l0])) (h' := (S, T)) rfl ?_
      obtain ⟨r23, hc, hx⟩ := bd_some hx
      refine ev_call rfl rfl rfl rfl rfl rfl rfl rfl rfl ((t_Outbox_at scr l0 l3 S T hc rfl).mono (by decide)) ?_
      refine ev_steps 2 (c' := (36, [some (vR 5 l0), some (vI l1), some (vI l2), some (vI l3)], [vI l1, vI (S cSentWord_lastPath r23 0)])) (h' := (S, T)) rfl ?_
      refine ev_icmp_ne rfl (fun hc => ?_) (fun hc => ?_)
      · rw [if_pos hc] at hx
        refine ev_steps 1 (c' := (42, [some (vR 5 l0), some (vI l1), some (vI (l2 + (1 : Int32))), some (vI l3)], [])) (h' := (S, T)) rfl ?_
        exact t_Outbox_countOut_42 scr l0 l1 (l2 + (1 : Int32)) l3 S T hx hG
      · rw [if_neg hc] at hx
        exact t_Outbox_countOut_42 scr l0 l1 l2 l3 S T hx hG
    · rw [if_neg hc] at hx
      exact t_Outbox_countOut_42 scr l0 l1 l2 l3 S T hx hG
  · rw [if_neg hc] at hx
    obtain ⟨x, hy, rfl⟩ := exW_some hx
    replace hx := hy
    simp only [Sum.elim_inr] at hG
    refine ev_steps 1 (c' := (49, [some (vR 5 l0), some (vI l1), some (vI l2), some (vI l3)], [vI l2])) (h' := (S, T)) rfl ?_
    cases hx
    subst hG
    exact ev_ret rfl rfl
theorem t_Outbox_countOut_7 (scr : Nat × (Nat → Int32)) (l0 : Nat) (l1 : Int32) (l2 : Int32) (l3 : Int32) (S : St) (T : St) {x : Int32} {o : Option iV × SS} (hx : f_Outbox_countOut_7 l0 l1 S (l2, l3) = some x) (hG : (fun x => (some (vI x), (S, T)) = o) x) : EB scr 2 5 1 cd_Outbox_countOut (7, [some (vR 5 l0), some (vI l1), some (vI l2), some (vI l3)], []) (S, T) o := by
  exact iter_ind (P := fun q => EB scr 2 5 1 cd_Outbox_countOut (7, [some (vR 5 l0), some (vI l1), some (vI q.1), some (vI q.2)], []) (S, T) o) (G := fun x => (some (vI x), (S, T)) = o) (fun q x hb hP  => t_Outbox_countOut_7_b scr l0 l1 q.1 q.2 S T hb hP) hx hG 
def f_Outbox_countOut (u : Nat) (a1 : Int32) (S : St) : Option (Int32) :=
  f_Outbox_countOut_7 u a1 S ((0 : Int32), S cOutbox_firstNumber u 0)
theorem t_Outbox_countOut (scr : Nat × (Nat → Int32)) (u : Nat) (a1 : Int32) (S T : St) {x : Int32} {o : Option iV × SS} (hx : f_Outbox_countOut u a1 S = some x) (hG : (some (vI x), (S, T)) = o) : E0 scr 3 130 [vR 5 u, vI a1] (S, T) o := by
  refine ev_meth (ls := [some (vR 5 u), some (vI a1), none, none]) rfl rfl rfl ?_
  unfold f_Outbox_countOut at hx
  refine ev_steps 5 (c' := (7, [some (vR 5 u), some (vI a1), some (vI (0 : Int32)), some (vI (S cOutbox_firstNumber u 0))], [])) (h' := (S, T)) rfl ?_
  exact t_Outbox_countOut_7 scr u a1 (0 : Int32) (S cOutbox_firstNumber u 0) S T hx hG
-- Outbox_countOutOrMarked
def f_Outbox_countOutOrMarked_42 (l0 : Nat) (l1 : Int32) (l2 : Int32) (S : St) : Option ((Int32 × Int32) ⊕ (Int32)) :=
  some (Sum.inl (l1, l2 + (1 : Int32)))
theorem t_Outbox_countOutOrMarked_42 (scr : Nat × (Nat → Int32)) (l0 : Nat) (l1 : Int32) (l2 : Int32) (S : St) (T : St) {x : (Int32 × Int32) ⊕ (Int32)} {o : Option iV × SS} (hx : f_Outbox_countOutOrMarked_42 l0 l1 l2 S = some x) (hG : (Sum.elim (fun q => EB scr 2 5 1 cd_Outbox_countOutOrMarked (7, [some (vR 5 l0), some (vI q.1), some (vI q.2)], []) (S, T) o) (fun x => (some (vI x), (S, T)) = o)) x) : EB scr 2 5 1 cd_Outbox_countOutOrMarked (42, [some (vR 5 l0), some (vI l1), some (vI l2)], []) (S, T) o := by
  unfold f_Outbox_countOutOrMarked_42 at hx
  try dsimp only at hG
  refine ev_steps 2 (c' := (7, [some (vR 5 l0), some (vI l1), some (vI (l2 + (1 : Int32)))], [])) (h' := (S, T)) rfl ?_
  cases hx
  exact hG
def f_Outbox_countOutOrMarked_39 (l0 : Nat) (l1 : Int32) (l2 : Int32) (S : St) : Option ((Int32 × Int32) ⊕ (Int32)) :=
  f_Outbox_countOutOrMarked_42 l0 (l1 + (1 : Int32)) l2 S
theorem t_Outbox_countOutOrMarked_39 (scr : Nat × (Nat → Int32)) (l0 : Nat) (l1 : Int32) (l2 : Int32) (S : St) (T : St) {x : (Int32 × Int32) ⊕ (Int32)} {o : Option iV × SS} (hx : f_Outbox_countOutOrMarked_39 l0 l1 l2 S = some x) (hG : (Sum.elim (fun q => EB scr 2 5 1 cd_Outbox_countOutOrMarked (7, [some (vR 5 l0), some (vI q.1), some (vI q.2)], []) (S, T) o) (fun x => (some (vI x), (S, T)) = o)) x) : EB scr 2 5 1 cd_Outbox_countOutOrMarked (39, [some (vR 5 l0), some (vI l1), some (vI l2)], []) (S, T) o := by
  unfold f_Outbox_countOutOrMarked_39 at hx
  try dsimp only at hG
  refine ev_steps 1 (c' := (42, [some (vR 5 l0), some (vI (l1 + (1 : Int32))), some (vI l2)], [])) (h' := (S, T)) rfl ?_
  exact t_Outbox_countOutOrMarked_42 scr l0 (l1 + (1 : Int32)) l2 S T hx hG
def f_Outbox_countOutOrMarked_7_b (l0 : Nat) (S : St) : (Int32 × Int32) → Option ((Int32 × Int32) ⊕ (Int32))
  | (l1, l2) => if l2 < (S cOutbox_nextNumber l0 0) then (bd (f_Outbox_at l0 l2) (fun r25 => if (S cSentWord_state r25 0) = (2 : Int32) then f_Outbox_countOutOrMarked_39 l0 l1 l2 S else (bd (f_Outbox_at l0 l2) (fun r27 => if (S cSentWord_state r27 0) = (3 : Int32) then f_Outbox_countOutOrMarked_39 l0 l1 l2 S else f_Outbox_countOutOrMarked_42 l0 l1 l2 S)))) else exW (some l1)
def f_Outbox_countOutOrMarked_7 (l0 : Nat) (S : St) (q : Int32 × Int32) : Option (Int32) := iter (f_Outbox_countOutOrMarked_7_b l0 S) 4096 q
theorem t_Outbox_countOutOrMarked_7_b (scr : Nat × (Nat → Int32)) (l0 : Nat) (l1 : Int32) (l2 : Int32) (S : St) (T : St) {x : (Int32 × Int32) ⊕ (Int32)} {o : Option iV × SS} (hx : f_Outbox_countOutOrMarked_7_b l0 S (l1, l2) = some x) (hG : (Sum.elim (fun q => EB scr 2 5 1 cd_Outbox_countOutOrMarked (7, [some (vR 5 l0), some (vI q.1), some (vI q.2)], []) (S, T) o) (fun x => (some (vI x), (S, T)) = o)) x) : EB scr 2 5 1 cd_Outbox_countOutOrMarked (7, [some (vR 5 l0), some (vI l1), some (vI l2)], []) (S, T) o := by
  unfold f_Outbox_countOutOrMarked_7_b at hx
  dsimp only at hx
  refine ev_steps 3 (c' := (12, [some (vR 5 l0), some (vI l1), some (vI l2)], [vI (S cOutbox_nextNumber l0 0), vI l2])) (h' := (S, T)) rfl ?_
  refine ev_icmp_ge rfl (fun hc => ?_) (fun hc => ?_)
  · rw [if_pos hc] at hx
    refine ev_steps 2 (c' := (17, [some (vR 5 l0), some (vI l1), some (vI l2)], [vI l2, vR 5 l0])) (h' := (S, T)) rfl ?_
    obtain ⟨r25, hc, hx⟩ := bd_some hx
    refine ev_call rfl rfl rfl rfl rfl rfl rfl rfl rfl ((t_Outbox_at scr l0 l2 S T hc rfl).mono (by decide)) ?_
    refine ev_steps 2 (c' := (24, [some (vR 5 l0), some (vI l1), some (vI l2)], [vI (2 : Int32), vI (S cSentWord_state r25 0)])) (h' := (S, T)) rfl ?_
    refine ev_icmp_eq rfl (fun hc => ?_) (fun hc => ?_)
    · rw [if_pos hc] at hx
      exact t_Outbox_countOutOrMarked_39 scr l0 l1 l2 S T hx hG
    · rw [if_neg hc] at hx
      refine ev_steps 2 (c' := (29, [some (vR 5 l0), some (vI l1), some (vI l2)], [vI l2, vR 5 l0])) (h' := (S, T)) rfl ?_
      obtain ⟨r27, hc, hx⟩ := bd_some hx
      refine ev_call rfl rfl rfl rfl rfl rfl rfl rfl rfl ((t_Outbox_at scr l0 l2 S T hc rfl).mono (by decide)) ?_
      refine ev_steps 2 (c' := (36, [some (vR 5 l0), some (vI l1), some (vI l2)], [vI (3 : Int32), vI (S cSentWord_state r27 0)])) (h' := (S, T)) rfl ?_
      refine ev_icmp_ne rfl (fun hc => ?_) (fun hc => ?_)
      · rw [if_pos hc] at hx
        exact t_Outbox_countOutOrMarked_39 scr l0 l1 l2 S T hx hG
      · rw [if_neg hc] at hx
        exact t_Outbox_countOutOrMarked_42 scr l0 l1 l2 S T hx hG
  · rw [if_neg hc] at hx
    obtain ⟨x, hy, rfl⟩ := exW_some hx
    replace hx := hy
    simp only [Sum.elim_inr] at hG
    refine ev_steps 1 (c' := (49, [some (vR 5 l0), some (vI l1), some (vI l2)], [vI l1])) (h' := (S, T)) rfl ?_
    cases hx
    subst hG
    exact ev_ret rfl rfl
theorem t_Outbox_countOutOrMarked_7 (scr : Nat × (Nat → Int32)) (l0 : Nat) (l1 : Int32) (l2 : Int32) (S : St) (T : St) {x : Int32} {o : Option iV × SS} (hx : f_Outbox_countOutOrMarked_7 l0 S (l1, l2) = some x) (hG : (fun x => (some (vI x), (S, T)) = o) x) : EB scr 2 5 1 cd_Outbox_countOutOrMarked (7, [some (vR 5 l0), some (vI l1), some (vI l2)], []) (S, T) o := by
  exact iter_ind (P := fun q => EB scr 2 5 1 cd_Outbox_countOutOrMarked (7, [some (vR 5 l0), some (vI q.1), some (vI q.2)], []) (S, T) o) (G := fun x => (some (vI x), (S, T)) = o) (fun q x hb hP  => t_Outbox_countOutOrMarked_7_b scr l0 q.1 q.2 S T hb hP) hx hG 
def f_Outbox_countOutOrMarked (u : Nat) (S : St) : Option (Int32) :=
  f_Outbox_countOutOrMarked_7 u S ((0 : Int32), S cOutbox_firstNumber u 0)
theorem t_Outbox_countOutOrMarked (scr : Nat × (Nat → Int32)) (u : Nat) (S T : St) {x : Int32} {o : Option iV × SS} (hx : f_Outbox_countOutOrMarked u S = some x) (hG : (some (vI x), (S, T)) = o) : E0 scr 3 131 [vR 5 u] (S, T) o := by
  refine ev_meth (ls := [some (vR 5 u), none, none]) rfl rfl rfl ?_
  unfold f_Outbox_countOutOrMarked at hx
  refine ev_steps 5 (c' := (7, [some (vR 5 u), some (vI (0 : Int32)), some (vI (S cOutbox_firstNumber u 0))], [])) (h' := (S, T)) rfl ?_
  exact t_Outbox_countOutOrMarked_7 scr u (0 : Int32) (S cOutbox_firstNumber u 0) S T hx hG
