/-! Methods as functions on the store, printed by a program. -/
-- L_answerEcho
def f_L_answerEcho_78 (l1 : Int32) (l3 : Nat) (l4 : Nat) (S : St) : Option (St) :=
  if (S cEnd_ownTag l4 0) = (S cCookie_serverTag l3 0) then (if (S cEnd_otherTag l4 0) = (S cCookie_clientTag l3 0) then (bd2 (f_End_post l4 l1 (3 : Int32) S) (fun r57 S58 => some S58)) else some S) else some S
theorem t_L_answerEcho_78 (scr : Nat × (Nat → Int32)) (l1 : Int32) (l3 : Nat) (l4 : Nat) (S : St) (T : St) (d0 d2 : Option iV) {x : St} {o : Option iV × SS} (hx : f_L_answerEcho_78 l1 l3 l4 S = some x) (hG : (fun x => (none, (x, T)) = o) x) : EB scr 3 0 0 cd_L_answerEcho (78, [d0, some (vI l1), d2, some (vR 2 l3), some (vR 3 l4)], []) (S, T) o := by
  unfold f_L_answerEcho_78 at hx
  try dsimp only at hG
  refine ev_steps 4 (c' := (87, [_, some (vI l1), _, some (vR 2 l3), some (vR 3 l4)], [vI (S cCookie_serverTag l3 0), vI (S cEnd_ownTag l4 0)])) (h' := (S, T)) rfl ?_
  refine ev_icmp_ne rfl (fun hc => ?_) (fun hc => ?_)
  · rw [if_pos hc] at hx
    refine ev_steps 4 (c' := (99, [_, some (vI l1), _, some (vR 2 l3), some (vR 3 l4)], [vI (S cCookie_clientTag l3 0), vI (S cEnd_otherTag l4 0)])) (h' := (S, T)) rfl ?_
    refine ev_icmp_ne rfl (fun hc => ?_) (fun hc => ?_)
    · rw [if_pos hc] at hx
      refine ev_steps 3 (c' := (106, [_, some (vI l1), _, some (vR 2 l3), some (vR 3 l4)], [vI (3 : Int32), vI l1, vR 3 l4])) (h' := (S, T)) rfl ?_
      obtain ⟨r57, S58, hc, hx⟩ := bd2_some hx
      refine ev_call rfl rfl rfl rfl rfl rfl rfl rfl rfl ((t_End_post scr l4 l1 (3 : Int32) S T hc rfl).mono (by decide)) ?_
      refine ev_steps 1 (c' := (110, [_, some (vI l1), _, some (vR 2 l3), some (vR 3 l4)], [])) (h' := (S58, T)) rfl ?_
      cases hx
      subst hG
      exact ev_ret rfl rfl
    · rw [if_neg hc] at hx
      cases hx
      subst hG
      exact ev_ret rfl rfl
  · rw [if_neg hc] at hx
    cases hx
    subst hG
    exact ev_ret rfl rfl
def f_L_answerEcho (u : Nat) (a1 : Int32) (u2 : Nat) (S : St) : Option (St) :=
  if (S cPacket_tag u2 0) = (S cCookie_serverTag u2 0) then (if (f_L_isGenuine u u2 S) = 0 then some S else (if inb (1 : Int32) 2 = true then if (S cEnd_state (ix (1 : Int32)) 0) = 0 then (bd2 (f_TagList_add (u + 1) (S cCookie_serverTag u2 0) S) (fun r59 S60 => if r59 = 0 then f_L_answerEcho_78 a1 u2 (ix (1 : Int32)) S60 else (bd (f_End_comeUp (ix (1 : Int32)) (up3 (up3 S60 cEnd_ownTag (ix (1 : Int32)) 0 (S60 cCookie_serverTag u2 0)) cEnd_otherTag (ix (1 : Int32)) 0 (S60 cCookie_clientTag u2 0))) (fun S62 => f_L_answerEcho_78 a1 u2 (ix (1 : Int32)) S62)))) else f_L_answerEcho_78 a1 u2 (ix (1 : Int32)) S else none)) else some S
theorem t_L_answerEcho (scr : Nat × (Nat → Int32)) (u : Nat) (a1 : Int32) (u2 : Nat) (S T : St) {x : St} {o : Option iV × SS} (hx : f_L_answerEcho u a1 u2 S = some x) (hG : (none, (x, T)) = o) : E0 scr 4 26 [vR 0 u, vI a1, vR 6 u2] (S, T) o := by
  refine ev_meth (ls := [some (vR 0 u), some (vI a1), some (vR 6 u2), none, none]) rfl rfl rfl ?_
  unfold f_L_answerEcho at hx
  refine ev_steps 7 (c' := (13, [some (vR 0 u), some (vI a1), some (vR 6 u2), some (vR 2 u2), none], [vI (S cCookie_serverTag u2 0), vI (S cPacket_tag u2 0)])) (h' := (S, T)) rfl ?_
  refine ev_icmp_ne rfl (fun hc => ?_) (fun hc => ?_)
  · rw [if_pos hc] at hx
    refine ev_steps 2 (c' := (18, [some (vR 0 u), some (vI a1), some (vR 6 u2), some (vR 2 u2), none], [vR 2 u2, vR 0 u])) (h' := (S, T)) rfl ?_
    refine ev_call rfl rfl rfl rfl rfl rfl rfl rfl rfl ((t_L_isGenuine scr u u2 S T rfl).mono (by decide)) ?_
    refine ev_steps 0 (c' := (21, [some (vR 0 u), some (vI a1), some (vR 6 u2), some (vR 2 u2), none], [vI (f_L_isGenuine u u2 S)])) (h' := (S, T)) rfl ?_
    refine ev_if_ne rfl (fun hc => ?_) (fun hc => ?_)
    · rw [if_pos hc] at hx
      cases hx
      subst hG
      exact ev_ret rfl rfl
    · rw [if_neg hc] at hx
      refine ev_steps 3 (c' := (30, [some (vR 0 u), some (vI a1), some (vR 6 u2), some (vR 2 u2), none], [vI (1 : Int32), vR 64 u])) (h' := (S, T)) rfl ?_
      obtain ⟨hg, hx⟩ := ifg hx
      refine ev_aald2 rfl rfl hg ?_
      refine ev_steps 3 (c' := (38, [some (vR 0 u), some (vI a1), some (vR 6 u2), some (vR 2 u2), some (vR 3 (ix (1 : Int32)))], [vI (S cEnd_state (ix (1 : Int32)) 0)])) (h' := (S, T)) rfl ?_
      refine ev_if_ne rfl (fun hc => ?_) (fun hc => ?_)
      · rw [if_pos hc] at hx
        refine ev_steps 4 (c' := (49, [some (vR 0 u), some (vI a1), some (vR 6 u2), some (vR 2 u2), some (vR 3 (ix (1 : Int32)))], [vI (S cCookie_serverTag u2 0), vR 11 (u + 1)])) (h' := (S, T)) rfl ?_
        obtain ⟨r59, S60, hc, hx⟩ := bd2_some hx
        refine ev_call rfl rfl rfl rfl rfl rfl rfl rfl rfl ((t_TagList_add scr (u + 1) (S cCookie_serverTag u2 0) S T hc rfl).mono (by decide)) ?_
        refine ev_steps 0 (c' := (52, [some (vR 0 u), some (vI a1), some (vR 6 u2), some (vR 2 u2), some (vR 3 (ix (1 : Int32)))], [vI r59])) (h' := (S60, T)) rfl ?_
        refine ev_if_eq rfl (fun hc => ?_) (fun hc => ?_)
        · rw [if_pos hc] at hx
          exact t_L_answerEcho_78 scr a1 u2 (ix (1 : Int32)) S60 T _ _ hx hG
        · rw [if_neg hc] at hx
          refine ev_steps 9 (c' := (75, [some (vR 0 u), some (vI a1), some (vR 6 u2), some (vR 2 u2), some (vR 3 (ix (1 : Int32)))], [vR 3 (ix (1 : Int32))])) (h' := (up3 (up3 S60 cEnd_ownTag (ix (1 : Int32)) 0 (S60 cCookie_serverTag u2 0)) cEnd_otherTag (ix (1 : Int32)) 0 (S60 cCookie_clientTag u2 0), T)) rfl ?_
          obtain ⟨S62, hc, hx⟩ := bd_some hx
          refine ev_call rfl rfl rfl rfl rfl rfl rfl rfl rfl ((t_End_comeUp scr (ix (1 : Int32)) (up3 (up3 S60 cEnd_ownTag (ix (1 : Int32)) 0 (S60 cCookie_serverTag u2 0)) cEnd_otherTag (ix (1 : Int32)) 0 (S60 cCookie_clientTag u2 0)) T hc rfl).mono (by decide)) ?_
          refine ev_steps 0 (c' := (78, [some (vR 0 u), some (vI a1), some (vR 6 u2), some (vR 2 u2), some (vR 3 (ix (1 : Int32)))], [])) (h' := (S62, T)) rfl ?_
          exact t_L_answerEcho_78 scr a1 u2 (ix (1 : Int32)) S62 T _ _ hx hG
      · rw [if_neg hc] at hx
        exact t_L_answerEcho_78 scr a1 u2 (ix (1 : Int32)) S T _ _ hx hG
  · rw [if_neg hc] at hx
    cases hx
    subst hG
    exact ev_ret rfl rfl
-- End_takeEchoAck
def f_End_takeEchoAck (u : Nat) (u1 : Nat) (S : St) : Option (St) :=
  if (S cEnd_state u 0) = (2 : Int32) then (if (S cPacket_tag u1 0) = (S cEnd_ownTag u 0) then (bd (f_End_comeUp u S) (fun S64 => some S64)) else some S) else some S
theorem t_End_takeEchoAck (scr : Nat × (Nat → Int32)) (u : Nat) (u1 : Nat) (S T : St) {x : St} {o : Option iV × SS} (hx : f_End_takeEchoAck u u1 S = some x) (hG : (none, (x, T)) = o) : E0 scr 3 84 [vR 3 u, vR 6 u1] (S, T) o := by
  refine ev_meth (ls := [some (vR 3 u), some (vR 6 u1)]) rfl rfl rfl ?_
  unfold f_End_takeEchoAck at hx
  refine ev_steps 3 (c' := (5, [some (vR 3 u), some (vR 6 u1)], [vI (2 : Int32), vI (S cEnd_state u 0)])) (h' := (S, T)) rfl ?_
  refine ev_icmp_ne rfl (fun hc => ?_) (fun hc => ?_)
  · rw [if_pos hc] at hx
    refine ev_steps 4 (c' := (16, [some (vR 3 u), some (vR 6 u1)], [vI (S cEnd_ownTag u 0), vI (S cPacket_tag u1 0)])) (h' := (S, T)) rfl ?_
    refine ev_icmp_ne rfl (fun hc => ?_) (fun hc => ?_)
    · rw [if_pos hc] at hx
      refine ev_steps 1 (c' := (20, [some (vR 3 u), some (vR 6 u1)], [vR 3 u])) (h' := (S, T)) rfl ?_
      obtain ⟨S64, hc, hx⟩ := bd_some hx
      refine ev_call rfl rfl rfl rfl rfl rfl rfl rfl rfl ((t_End_comeUp scr u S T hc rfl).mono (by decide)) ?_
      refine ev_steps 0 (c' := (23, [some (vR 3 u), some (vR 6 u1)], [])) (h' := (S64, T)) rfl ?_
      cases hx
      subst hG
      exact ev_ret rfl rfl
    · rw [if_neg hc] at hx
      cases hx
      subst hG
      exact ev_ret rfl rfl
  · rw [if_neg hc] at hx
    cases hx
    subst hG
    exact ev_ret rfl rfl
-- L_takeMaking
def f_L_takeMaking_76 (l0 : Nat) (l1 : Int32) (l3 : Nat) (S : St) : Option (St) :=
  if (S cPacket_kind l3 0) = (3 : Int32) then (if l1 = 0 then (if inb (0 : Int32) 2 = true then bd (f_End_takeEchoAck (ix (0 : Int32)) l3 S) (fun S66 => some S66) else none) else some S) else some S
theorem t_L_takeMaking_76 (scr : Nat × (Nat → Int32)) (l0 : Nat) (l1 : Int32) (l3 : Nat) (S : St) (T : St) (d2 : Option iV) {x : St} {o : Option iV × SS} (hx : f_L_takeMaking_76 l0 l1 l3 S = some x) (hG : (fun x => (none, (x, T)) = o) x) : EB scr 5 0 0 cd_L_takeMaking (76, [some (vR 0 l0), some (vI l1), d2, some (vR 6 l3)], []) (S, T) o := by
  unfold f_L_takeMaking_76 at hx
  try dsimp only at hG
  refine ev_steps 3 (c' := (81, [some (vR 0 l0), some (vI l1), _, some (vR 6 l3)], [vI (3 : Int32), vI (S cPacket_kind l3 0)])) (h' := (S, T)) rfl ?_
  refine ev_icmp_ne rfl (fun hc => ?_) (fun hc => ?_)
  · rw [if_pos hc] at hx
    refine ev_steps 1 (c' := (85, [some (vR 0 l0), some (vI l1), _, some (vR 6 l3)], [vI l1])) (h' := (S, T)) rfl ?_
    refine ev_if_ne rfl (fun hc => ?_) (fun hc => ?_)
    · rw [if_pos hc] at hx
      refine ev_steps 3 (c' := (93, [some (vR 0 l0), some (vI l1), _, some (vR 6 l3)], [vI (0 : Int32), vR 64 l0])) (h' := (S, T)) rfl ?_
      obtain ⟨hg, hx⟩ := ifg hx
      refine ev_aald2 rfl rfl hg ?_
      refine ev_steps 1 (c' := (95, [some (vR 0 l0), some (vI l1), _, some (vR 6 l3)], [vR 6 l3, vR 3 (ix (0 : Int32))])) (h' := (S, T)) rfl ?_
      obtain ⟨S66, hc, hx⟩ := bd_some hx
      refine ev_call rfl rfl rfl rfl rfl rfl rfl rfl rfl ((t_End_takeEchoAck scr (ix (0 : Int32)) l3 S T hc rfl).mono (by decide)) ?_
      refine ev_steps 0 (c' := (98, [some (vR 0 l0), some (vI l1), _, some (vR 6 l3)], [])) (h' := (S66, T)) rfl ?_
      cases hx
      subst hG
      exact ev_ret rfl rfl
    · rw [if_neg hc] at hx
      cases hx
      subst hG
      exact ev_ret rfl rfl
  · rw [if_neg hc] at hx
    cases hx
    subst hG
    exact ev_ret rfl rfl
def f_L_takeMaking_54 (l0 : Nat) (l1 : Int32) (l2 : Int32) (l3 : Nat) (S : St) : Option (St) :=
  if (S cPacket_kind l3 0) = (2 : Int32) then (if l1 = (1 : Int32) then (bd (f_L_answerEcho l0 l2 l3 S) (fun S68 => some S68)) else f_L_takeMaking_76 l0 l1 l3 S) else f_L_takeMaking_76 l0 l1 l3 S
theorem t_L_takeMaking_54 (scr : Nat × (Nat → Int32)) (l0 : Nat) (l1 : Int32) (l2 : Int32) (l3 : Nat) (S : St) (T : St) {x : St} {o : Option iV × SS} (hx : f_L_takeMaking_54 l0 l1 l2 l3 S = some x) (hG : (fun x => (none, (x, T)) = o) x) : EB scr 5 0 0 cd_L_takeMaking (54, [some (vR 0 l0), some (vI l1), some (vI l2), some (vR 6 l3)], []) (S, T) o := by
  unfold f_L_takeMaking_54 at hx
  try dsimp only at hG
  refine ev_steps 3 (c' := (59, [some (vR 0 l0), some (vI l1), some (vI l2), some (vR 6 l3)], [vI (2 : Int32), vI (S cPacket_kind l3 0)])) (h' := (S, T)) rfl ?_
  refine ev_icmp_ne rfl (fun hc => ?_) (fun hc => ?_)
  · rw [if_pos hc] at hx
    refine ev_steps 2 (c' := (64, [some (vR 0 l0), some (vI l1), some (vI l2), some (vR 6 l3)], [vI (1 : Int32), vI l1])) (h' := (S, T)) rfl ?_
    refine ev_icmp_ne rfl (fun hc => ?_) (fun hc => ?_)
    · rw [if_pos hc] at hx
      refine ev_steps 3 (c' := (70, [some (vR 0 l0), some (vI l1), some (vI l2), some (vR 6 l3)], [vR 6 l3, vI l2, vR 0 l0])) (h' := (S, T)) rfl ?_
      obtain ⟨S68, hc, hx⟩ := bd_some hx
      refine ev_call rfl rfl rfl rfl rfl rfl rfl rfl rfl ((t_L_answerEcho scr l0 l2 l3 S T hc rfl).mono (by decide)) ?_
      refine ev_steps 1 (c' := (98, [some (vR 0 l0), some (vI l1), some (vI l2), some (vR 6 l3)], [])) (h' := (S68, T)) rfl ?_
      cases hx
      subst hG
      exact ev_ret rfl rfl
    · rw [if_neg hc] at hx
      exact t_L_takeMaking_76 scr l0 l1 l3 S T _ hx hG
  · rw [if_neg hc] at hx
    exact t_L_takeMaking_76 scr l0 l1 l3 S T _ hx hG
def f_L_takeMaking_24 (l0 : Nat) (l1 : Int32) (l2 : Int32) (l3 : Nat) (S : St) : Option (St) :=
  if (S cPacket_kind l3 0) = (1 : Int32) then (if l1 = 0 then (if inb (0 : Int32) 2 = true then bd (f_End_takeInitAck (ix (0 : Int32)) l2 l3 (S cL_now l0 0) S) (fun S70 => some S70) else none) else f_L_takeMaking_54 l0 l1 l2 l3 S) else f_L_takeMaking_54 l0 l1 l2 l3 S
theorem t_L_takeMaking_24 (scr : Nat × (Nat → Int32)) (l0 : Nat) (l1 : Int32) (l2 : Int32) (l3 : Nat) (S : St) (T : St) {x : St} {o : Option iV × SS} (hx : f_L_takeMaking_24 l0 l1 l2 l3 S = some x) (hG : (fun x => (none, (x, T)) = o) x) : EB scr 5 0 0 cd_L_takeMaking (24, [some (vR 0 l0), some (vI l1), some (vI l2), some (vR 6 l3)], []) (S, T) o := by
  unfold f_L_takeMaking_24 at hx
  try dsimp only at hG
  refine ev_steps 3 (c' := (29, [some (vR 0 l0), some (vI l1), some (vI l2), some (vR 6 l3)], [vI (1 : Int32), vI (S cPacket_kind l3 0)])) (h' := (S, T)) rfl ?_
  refine ev_icmp_ne rfl (fun hc => ?_) (fun hc => ?_)
  · rw [if_pos hc] at hx
    refine ev_steps 1 (c' := (33, [some (vR 0 l0), some (vI l1), some (vI l2), some (vR 6 l3)], [vI l1])) (h' := (S, T)) rfl ?_
    refine ev_if_ne rfl (fun hc => ?_) (fun hc => ?_)
    · rw [if_pos hc] at hx
      refine ev_steps 3 (c' := (41, [some (vR 0 l0), some (vI l1), some (vI l2), some (vR 6 l3)], [vI (0 : Int32), vR 64 l0])) (h' := (S, T)) rfl ?_
      obtain ⟨hg, hx⟩ := ifg hx
      refine ev_aald2 rfl rfl hg ?_
      refine ev_steps 4 (c' := (48, [some (vR 0 l0), some (vI l1), some (vI l2), some (vR 6 l3)], [vI (S cL_now l0 0), vR 6 l3, vI l2, vR 3 (ix (0 : Int32))])) (h' := (S, T)) rfl ?_
      obtain ⟨S70, hc, hx⟩ := bd_some hx
      refine ev_call rfl rfl rfl rfl rfl rfl rfl rfl rfl ((t_End_takeInitAck scr (ix (0 : Int32)) l2 l3 (S cL_now l0 0) S T hc rfl).mono (by decide)) ?_
      refine ev_steps 1 (c' := (98, [some (vR 0 l0), some (vI l1), some (vI l2), some (vR 6 l3)], [])) (h' := (S70, T)) rfl ?_
      cases hx
      subst hG
      exact ev_ret rfl rfl
    · rw [if_neg hc] at hx
      exact t_L_takeMaking_54 scr l0 l1 l2 l3 S T hx hG
  · rw [if_neg hc] at hx
    exact t_L_takeMaking_54 scr l0 l1 l2 l3 S T hx hG
def f_L_takeMaking (u : Nat) (a1 : Int32) (a2 : Int32) (u3 : Nat) (S : St) : Option (St) :=
  if (S cPacket_kind u3 0) = 0 then (if a1 = (1 : Int32) then (bd (f_L_answerInit u a2 (S cPacket_newTag u3 0) S) (fun S72 => some S72)) else f_L_takeMaking_24 u a1 a2 u3 S) else f_L_takeMaking_24 u a1 a2 u3 S
theorem t_L_takeMaking (scr : Nat × (Nat → Int32)) (u : Nat) (a1 : Int32) (a2 : Int32) (u3 : Nat) (S T : St) {x : St} {o : Option iV × SS} (hx : f_L_takeMaking u a1 a2 u3 S = some x) (hG : (none, (x, T)) = o) : E0 scr 6 24 [vR 0 u, vI a1, vI a2, vR 6 u3] (S, T) o := by
  refine ev_meth (ls := [some (vR 0 u), some (vI a1), some (vI a2), some (vR 6 u3)]) rfl rfl rfl ?_
  unfold f_L_takeMaking at hx
  refine ev_steps 2 (c' := (4, [some (vR 0 u), some (vI a1), some (vI a2), some (vR 6 u3)], [vI (S cPacket_kind u3 0)])) (h' := (S, T)) rfl ?_
  refine ev_if_ne rfl (fun hc => ?_) (fun hc => ?_)
  · rw [if_pos hc] at hx
    refine ev_steps 2 (c' := (9, [some (vR 0 u), some (vI a1), some (vI a2), some (vR 6 u3)], [vI (1 : Int32), vI a1])) (h' := (S, T)) rfl ?_
    refine ev_icmp_ne rfl (fun hc => ?_) (fun hc => ?_)
    · rw [if_pos hc] at hx
      refine ev_steps 4 (c' := (18, [some (vR 0 u), some (vI a1), some (vI a2), some (vR 6 u3)], [vI (S cPacket_newTag u3 0), vI a2, vR 0 u])) (h' := (S, T)) rfl ?_
      obtain ⟨S72, hc, hx⟩ := bd_some hx
      refine ev_call rfl rfl rfl rfl rfl rfl rfl rfl rfl ((t_L_answerInit scr u a2 (S cPacket_newTag u3 0) S T hc rfl).mono (by decide)) ?_
      refine ev_steps 1 (c' := (98, [some (vR 0 u), some (vI a1), some (vI a2), some (vR 6 u3)], [])) (h' := (S72, T)) rfl ?_
      cases hx
      subst hG
      exact ev_ret rfl rfl
    · rw [if_neg hc] at hx
      exact t_L_takeMaking_24 scr u a1 a2 u3 S T hx hG
  · rw [if_neg hc] at hx
    exact t_L_takeMaking_24 scr u a1 a2 u3 S T hx hG
-- End_close
def f_End_close (u : Nat) (a1 : Int32) (S : St) : Option (St) :=
  bd (f_Outbox_reset u (0 : Int32) (up3 (up3 (up3 (up3 S cEnd_state u 0 (0 : Int32)) cEnd_report u 0 a1) cEnd_ownTag u 0 (0 : Int32)) cEnd_otherTag u 0 (0 : Int32))) (fun S74 => bd (f_Inbox_reset u S74) (fun S76 => some S76))
theorem t_End_close (scr : Nat × (Nat → Int32)) (u : Nat) (a1 : Int32) (S T : St) {x : St} {o : Option iV × SS} (hx : f_End_close u a1 S = some x) (hG : (none, (x, T)) = o) : E0 scr 2 80 [vR 3 u, vI a1] (S, T) o := by
  refine ev_meth (ls := [some (vR 3 u), some (vI a1)]) rfl rfl rfl ?_
  unfold f_End_close at hx
  refine ev_steps 15 (c' := (25, [some (vR 3 u), some (vI a1)], [vI (0 : Int32), vR 5 u])) (h' := (up3 (up3 (up3 (up3 S cEnd_state u 0 (0 : Int32)) cEnd_report u 0 a1) cEnd_ownTag u 0 (0 : Int32)) cEnd_otherTag u 0 (0 : Int32), T)) rfl ?_
  obtain ⟨S74, hc, hx⟩ := bd_some hx
  refine ev_call rfl rfl rfl rfl rfl rfl rfl rfl rfl ((t_Outbox_reset scr u (0 : Int32) (up3 (up3 (up3 (up3 S cEnd_state u 0 (0 : Int32)) cEnd_report u 0 a1) cEnd_ownTag u 0 (0 : Int32)) cEnd_otherTag u 0 (0 : Int32)) T hc rfl).mono (by decide)) ?_
  refine ev_steps 2 (c' := (32, [some (vR 3 u), some (vI a1)], [vR 4 u])) (h' := (S74, T)) rfl ?_
  obtain ⟨S76, hc, hx⟩ := bd_some hx
  refine ev_call rfl rfl rfl rfl rfl rfl rfl rfl rfl ((t_Inbox_reset scr u S74 T hc rfl).mono (by decide)) ?_
  refine ev_steps 0 (c' := (35, [some (vR 3 u), some (vI a1)], [])) (h' := (S76, T)) rfl ?_
  cases hx
  subst hG
  exact ev_ret rfl rfl
-- End_takeBeatAck
def f_End_takeBeatAck (u : Nat) (u1 : Nat) (a2 : Int32) (S : St) : St :=
  if (nz (S cPath_beatOpen u1 0)) = 0 then S else (if (S cPath_beatTick u1 0) = a2 then up3 (up3 (up3 (up3 S cPath_beatOpen u1 0 (0 : Int32)) cPath_active u1 0 (1 : Int32)) cPath_errors u1 0 (0 : Int32)) cEnd_allErrors u 0 (0 : Int32) else S)
theorem t_End_takeBeatAck (scr : Nat × (Nat → Int32)) (u : Nat) (u1 : Nat) (a2 : Int32) (S T : St) {o : Option iV × SS} (hG : (none, ((f_End_takeBeatAck u u1 a2 S), T)) = o) : E0 scr 1 95 [vR 3 u, vR 7 u1, vI a2] (S, T) o := by
  refine ev_meth (ls := [some (vR 3 u), some (vR 7 u1), some (vI a2)]) rfl rfl rfl ?_
  unfold f_End_takeBeatAck at hG
  refine ev_steps 2 (c' := (4, [some (vR 3 u), some (vR 7 u1), some (vI a2)], [vI (nz (S cPath_beatOpen u1 0))])) (h' := (S, T)) rfl ?_
  refine ev_if_eq rfl (fun hc => ?_) (fun hc => ?_)
  · rw [if_pos hc] at hG
    subst hG
    exact ev_ret rfl rfl
  · rw [if_neg hc] at hG
    refine ev_steps 3 (c' := (12, [some (vR 3 u), some (vR 7 u1), some (vI a2)], [vI a2, vI (S cPath_beatTick u1 0)])) (h' := (S, T)) rfl ?_
    refine ev_icmp_ne rfl (fun hc => ?_) (fun hc => ?_)
    · rw [if_pos hc] at hG
      refine ev_steps 12 (c' := (35, [some (vR 3 u), some (vR 7 u1), some (vI a2)], [])) (h' := (up3 (up3 (up3 (up3 S cPath_beatOpen u1 0 (0 : Int32)) cPath_active u1 0 (1 : Int32)) cPath_errors u1 0 (0 : Int32)) cEnd_allErrors u 0 (0 : Int32), T)) rfl ?_
      subst hG
      exact ev_ret rfl rfl
    · rw [if_neg hc] at hG
      subst hG
      exact ev_ret rfl rfl
-- End_dropUpTo
def f_End_dropUpTo_51 (l0 : Nat) (l1 : Int32) (l2 : Int32) (S : St) : Option ((Int32 × St) ⊕ (St)) :=
  some (Sum.inl (l2 + (1 : Int32), S))
theorem t_End_dropUpTo_51 (scr : Nat × (Nat → Int32)) (l0 : Nat) (l1 : Int32) (l2 : Int32) (S : St) (T : St) (d3 : Option iV) {x : (Int32 × St) ⊕ (St)} {o : Option iV × SS} (hx : f_End_dropUpTo_51 l0 l1 l2 S = some x) (hG : (Sum.elim (fun q => ∀ d3 : Option iV, EB scr 2 3 0 cd_End_dropUpTo (8, [some (vR 3 l0), some (vI l1), some (vI q.1), d3], []) (q.2, T) o) (fun x => (none, (x, T)) = o)) x) : EB scr 2 3 0 cd_End_dropUpTo (51, [some (vR 3 l0), some (vI l1), some (vI l2), d3], []) (S, T) o := by
  unfold f_End_dropUpTo_51 at hx
  try dsimp only at hG
  refine ev_steps 2 (c' := (8, [some (vR 3 l0), some (vI l1), some (vI (l2 + (1 : Int32))), _], [])) (h' := (S, T)) rfl ?_
  cases hx
  exact hG _
def f_End_dropUpTo_38 (l0 : Nat) (l1 : Int32) (l2 : Int32) (l3 : Nat) (S : St) : Option ((Int32 × St) ⊕ (St)) :=
  if inb (S cSentWord_lastPath l3 0) 2 = true then f_End_dropUpTo_51 l0 l1 l2 (up3 S cPath_good (2 * l0 + ix (S cSentWord_lastPath l3 0)) 0 (1 : Int32)) else none
theorem t_End_dropUpTo_38 (scr : Nat × (Nat → Int32)) (l0 : Nat) (l1 : Int32) (l2 : Int32) (l3 : Nat) (S : St) (T : St) {x : (Int32 × St) ⊕ (St)} {o : Option iV × SS} (hx : f_End_dropUpTo_38 l0 l1 l2 l3 S = some x) (hG : (Sum.elim (fun q => ∀ d3 : Option iV, EB scr 2 3 0 cd_End_dropUpTo (8, [some (vR 3 l0), some (vI l1), some (vI q.1), d3], []) (q.2, T) o) (fun x => (none, (x, T)) = o)) x) : EB scr 2 3 0 cd_End_dropUpTo (38, [some (vR 3 l0), some (vI l1), some (vI l2), some (vR 10 l3)], []) (S, T) o := by
  unfold f_End_dropUpTo_38 at hx
  try dsimp only at hG
  refine ev_steps 4 (c' := (46, [some (vR 3 l0), some (vI l1), some (vI l2), some (vR 10 l3)], [vI (S cSentWord_lastPath l3 0), vR 67 l0])) (h' := (S, T)) rfl ?_
  obtain ⟨hg, hx⟩ := ifg hx
  refine ev_aald3 rfl rfl hg ?_
  refine ev_steps 2 (c' := (51, [some (vR 3 l0), some (vI l1), some (vI l2), some (vR 10 l3)], [])) (h' := (up3 S cPath_good (2 * l0 + ix (S cSentWord_lastPath l3 0)) 0 (1 : Int32), T)) rfl ?_
  exact t_End_dropUpTo_51 scr l0 l1 l2 (up3 S cPath_good (2 * l0 + ix (S cSentWord_lastPath l3 0)) 0 (1 : Int32)) T _ hx hG
def f_End_dropUpTo_8_b (l0 : Nat) (l1 : Int32)  : (Int32 × St) → Option ((Int32 × St) ⊕ (St))
  | (l2, S) => if l1 < l2 then exW (some (up3 S cOutbox_firstNumber l0 0 (l1 + (1 : Int32)))) else (bd (f_Outbox_at l0 l2) (fun r77 => if (S cSentWord_state r77 0) = (2 : Int32) then f_End_dropUpTo_38 l0 l1 l2 r77 S else (if (S cSentWord_state r77 0) = (3 : Int32) then f_End_dropUpTo_38 l0 l1 l2 r77 S else f_End_dropUpTo_51 l0 l1 l2 S)))
def f_End_dropUpTo_8 (l0 : Nat) (l1 : Int32)  (q : Int32 × St) : Option (St) := iter (f_End_dropUpTo_8_b l0 l1) 4096 q
theorem t_End_dropUpTo_8_b (scr : Nat × (Nat → Int32)) (l0 : Nat) (l1 : Int32) (l2 : Int32) (S : St) (T : St) (d3 : Option iV) {x : (Int32 × St) ⊕ (St)} {o : Option iV × SS} (hx : f_End_dropUpTo_8_b l0 l1 (l2, S) = some x) (hG : (Sum.elim (fun q => ∀ d3 : Option iV, EB scr 2 3 0 cd_End_dropUpTo (8, [some (vR 3 l0), some (vI l1), some (vI q.1), d3], []) (q.2, T) o) (fun x => (none, (x, T)) = o)) x) : EB scr 2 3 0 cd_End_dropUpTo (8, [some (vR 3 l0), some (vI l1), some (vI l2), d3], []) (S, T) o := by
  unfold f_End_dropUpTo_8_b at hx
  dsimp only at hx
  refine ev_steps 2 (c' := (10, [some (vR 3 l0), some (vI l1), some (vI l2), _], [vI l1, vI l2])) (h' := (S, T)) rfl ?_
  refine ev_icmp_gt rfl (fun hc => ?_) (fun hc => ?_)
  · rw [if_pos hc] at hx
    obtain ⟨x, hy, rfl⟩ := exW_some hx
    replace hx := hy
    simp only [Sum.elim_inr] at hG
    refine ev_steps 6 (c' := (67, [some (vR 3 l0), some (vI l1), some (vI l2), _], [])) (h' := (up3 S cOutbox_firstNumber l0 0 (l1 + (1 : Int32)), T)) rfl ?_
    cases hx
    subst hG
    exact ev_ret rfl rfl
  · rw [if_neg hc] at hx
    refine ev_steps 3 (c' := (18, [some (vR 3 l0), some (vI l1), some (vI l2), _], [vI l2, vR 5 l0])) (h' := (S, T)) rfl ?_
    obtain ⟨r77, hc, hx⟩ := bd_some hx
    refine ev_call rfl rfl rfl rfl rfl rfl rfl rfl rfl ((t_Outbox_at scr l0 l2 S T hc rfl).mono (by decide)) ?_
    refine ev_steps 4 (c' := (27, [some (vR 3 l0), some (vI l1), some (vI l2), some (vR 10 r77)], [vI (2 : Int32), vI (S cSentWord_state r77 0)])) (h' := (S, T)) rfl ?_
    refine ev_icmp_eq rfl (fun hc => ?_) (fun hc => ?_)
    · rw [if_pos hc] at hx
      exact t_End_dropUpTo_38 scr l0 l1 l2 r77 S T hx hG
    · rw [if_neg hc] at hx
      refine ev_steps 3 (c' := (35, [some (vR 3 l0), some (vI l1), some (vI l2), some (vR 10 r77)], [vI (3 : Int32), vI (S cSentWord_state r77 0)])) (h' := (S, T)) rfl ?_
      refine ev_icmp_ne rfl (fun hc => ?_) (fun hc => ?_)
      · rw [if_pos hc] at hx
        exact t_End_dropUpTo_38 scr l0 l1 l2 r77 S T hx hG
      · rw [if_neg hc] at hx
        exact t_End_dropUpTo_51 scr l0 l1 l2 S T _ hx hG
theorem t_End_dropUpTo_8 (scr : Nat × (Nat → Int32)) (l0 : Nat) (l1 : Int32) (l2 : Int32) (S : St) (T : St) (d3 : Option iV) {x : St} {o : Option iV × SS} (hx : f_End_dropUpTo_8 l0 l1 (l2, S) = some x) (hG : (fun x => (none, (x, T)) = o) x) : EB scr 2 3 0 cd_End_dropUpTo (8, [some (vR 3 l0), some (vI l1), some (vI l2), d3], []) (S, T) o := by
  exact iter_ind (P := fun q => ∀ d3 : Option iV, EB scr 2 3 0 cd_End_dropUpTo (8, [some (vR 3 l0), some (vI l1), some (vI q.1), d3], []) (q.2, T) o) (G := fun x => (none, (x, T)) = o) (fun q x hb hP d3 => t_End_dropUpTo_8_b scr l0 l1 q.1 q.2 T d3 hb hP) hx hG d3
def f_End_dropUpTo (u : Nat) (a1 : Int32) (S : St) : Option (St) :=
  f_End_dropUpTo_8 u a1 (S cOutbox_firstNumber u 0, S)
theorem t_End_dropUpTo (scr : Nat × (Nat → Int32)) (u : Nat) (a1 : Int32) (S T : St) {x : St} {o : Option iV × SS} (hx : f_End_dropUpTo u a1 S = some x) (hG : (none, (x, T)) = o) : E0 scr 3 97 [vR 3 u, vI a1] (S, T) o := by
  refine ev_meth (ls := [some (vR 3 u), some (vI a1), none, none]) rfl rfl rfl ?_
  unfold f_End_dropUpTo at hx
  refine ev_steps 4 (c' := (8, [some (vR 3 u), some (vI a1), some (vI (S cOutbox_firstNumber u 0)), none], [])) (h' := (S, T)) rfl ?_
  exact t_End_dropUpTo_8 scr u a1 (S cOutbox_firstNumber u 0) S T _ hx hG
-- Outbox_has
def f_Outbox_has_20 (S : St) : Int32 :=
  (0 : Int32)
theorem t_Outbox_has_20 (scr : Nat × (Nat → Int32)) (S : St) (T : St) (d0 d1 : Option iV) {o : Option iV × SS} (hG : (fun x => (some (vI x), (S, T)) = o) (f_Outbox_has_20 S)) : EB scr 0 5 2 cd_Outbox_has (20, [d0, d1], []) (S, T) o := by
  unfold f_Outbox_has_20 at hG
  try dsimp only at hG
  refine ev_steps 1 (c' := (21, [_, _], [vI (0 : Int32)])) (h' := (S, T)) rfl ?_
  subst hG
  exact ev_ret rfl rfl
def f_Outbox_has (u : Nat) (a1 : Int32) (S : St) : Int32 :=
  if a1 < (S cOutbox_firstNumber u 0) then f_Outbox_has_20 S else (if a1 < (S cOutbox_nextNumber u 0) then (1 : Int32) else f_Outbox_has_20 S)
theorem t_Outbox_has (scr : Nat × (Nat → Int32)) (u : Nat) (a1 : Int32) (S T : St) {o : Option iV × SS} (hG : (some (vI (f_Outbox_has u a1 S)), (S, T)) = o) : E0 scr 1 125 [vR 5 u, vI a1] (S, T) o := by
  refine ev_meth (ls := [some (vR 5 u), some (vI a1)]) rfl rfl rfl ?_
  unfold f_Outbox_has at hG
  refine ev_steps 3 (c' := (5, [some (vR 5 u), some (vI a1)], [vI (S cOutbox_firstNumber u 0), vI a1])) (h' := (S, T)) rfl ?_
  refine ev_icmp_lt rfl (fun hc => ?_) (fun hc => ?_)
  · rw [if_pos hc] at hG
    exact t_Outbox_has_20 scr S T _ _ hG
  · rw [if_neg hc] at hG
    refine ev_steps 3 (c' := (13, [some (vR 5 u), some (vI a1)], [vI (S cOutbox_nextNumber u 0), vI a1])) (h' := (S, T)) rfl ?_
    refine ev_icmp_ge rfl (fun hc => ?_) (fun hc => ?_)
    · rw [if_pos hc] at hG
      refine ev_steps 2 (c' := (21, [some (vR 5 u), some (vI a1)], [vI (1 : Int32)])) (h' := (S, T)) rfl ?_
      subst hG
      exact ev_ret rfl rfl
    · rw [if_neg hc] at hG
      exact t_Outbox_has_20 scr S T _ _ hG
-- Outbox_stateOf
def f_Outbox_stateOf (u : Nat) (a1 : Int32) (S : St) : Option (Int32) :=
  if (f_Outbox_has u a1 S) = 0 then some (0 : Int32) else (bd (f_Outbox_at u a1) (fun r79 => some (S cSentWord_state r79 0)))
theorem t_Outbox_stateOf (scr : Nat × (Nat → Int32)) (u : Nat) (a1 : Int32) (S T : St) {x : Int32} {o : Option iV × SS} (hx : f_Outbox_stateOf u a1 S = some x) (hG : (some (vI x), (S, T)) = o) : E0 scr 3 127 [vR 5 u, vI a1] (S, T) o := by
  refine ev_meth (ls := [some (vR 5 u), some (vI a1)]) rfl rfl rfl ?_
  unfold f_Outbox_stateOf at hx
  refine ev_steps 2 (c' := (2, [some (vR 5 u), some (vI a1)], [vI a1, vR 5 u])) (h' := (S, T)) rfl ?_
  refine ev_call rfl rfl rfl rfl rfl rfl rfl rfl rfl ((t_Outbox_has scr u a1 S T rfl).mono (by decide)) ?_
  refine ev_steps 0 (c' := (5, [some (vR 5 u), some (vI a1)], [vI (f_Outbox_has u a1 S)])) (h' := (S, T)) rfl ?_
  refine ev_if_eq rfl (fun hc => ?_) (fun hc => ?_)
  · rw [if_pos hc] at hx
    refine ev_steps 1 (c' := (20, [some (vR 5 u), some (vI a1)], [vI (0 : Int32)])) (h' := (S, T)) rfl ?_
    cases hx
    subst hG
    exact ev_ret rfl rfl
  · rw [if_neg hc] at hx
    refine ev_steps 2 (c' := (10, [some (vR 5 u), some (vI a1)], [vI a1, vR 5 u])) (h' := (S, T)) rfl ?_
    obtain ⟨r79, hc, hx⟩ := bd_some hx
    refine ev_call rfl rfl rfl rfl rfl rfl rfl rfl rfl ((t_Outbox_at scr u a1 S T hc rfl).mono (by decide)) ?_
    refine ev_steps 2 (c' := (20, [some (vR 5 u), some (vI a1)], [vI (S cSentWord_state r79 0)])) (h' := (S, T)) rfl ?_
    cases hx
    subst hG
    exact ev_ret rfl rfl
-- L_isSet
def f_L_isSet (a0 : Int32) (a1 : Int32) : Int32 :=
  if ((iShr a0 a1) &&& (1 : Int32)) = (1 : Int32) then (1 : Int32) else (0 : Int32)
theorem t_L_isSet (scr : Nat × (Nat → Int32)) (a0 : Int32) (a1 : Int32) (S T : St) {o : Option iV × SS} (hG : (some (vI (f_L_isSet a0 a1)), (S, T)) = o) : E0 scr 1 20 [vI a0, vI a1] (S, T) o := by
  refine ev_meth (ls := [some (vI a0), some (vI a1)]) rfl rfl rfl ?_
  unfold f_L_isSet at hG
  refine ev_steps 6 (c' := (6, [some (vI a0), some (vI a1)], [vI (1 : Int32), vI ((iShr a0 a1) &&& (1 : Int32))])) (h' := (S, T)) rfl ?_
  refine ev_icmp_ne rfl (fun hc => ?_) (fun hc => ?_)
  · rw [if_pos hc] at hG
    refine ev_steps 2 (c' := (14, [some (vI a0), some (vI a1)], [vI (1 : Int32)])) (h' := (S, T)) rfl ?_
    subst hG
    exact ev_ret rfl rfl
  · rw [if_neg hc] at hG
    refine ev_steps 1 (c' := (14, [some (vI a0), some (vI a1)], [vI (0 : Int32)])) (h' := (S, T)) rfl ?_
    subst hG
    exact ev_ret rfl rfl
-- End_holdGaps
def f_End_holdGaps_78 (l0 : Nat) (l1 : Int32) (l2 : Int32) (S : St) : Option ((Int32 × St) ⊕ (St)) :=
  some (Sum.inl (l2 + (1 : Int32), S))
theorem t_End_holdGaps_78 (scr : Nat × (Nat → Int32)) (l0 : Nat) (l1 : Int32) (l2 : Int32) (S : St) (T : St) (d3 d4 d5 : Option iV) {x : (Int32 × St) ⊕ (St)} {o : Option iV × SS} (hx : f_End_holdGaps_78 l0 l1 l2 S = some x) (hG : (Sum.elim (fun q => ∀ d3 d4 d5 : Option iV, EB scr 3 3 0 cd_End_holdGaps (2, [some (vR 3 l0), some (vI l1), some (vI q.1), d3, d4, d5], []) (q.2, T) o) (fun x => (none, (x, T)) = o)) x) : EB scr 3 3 0 cd_End_holdGaps (78, [some (vR 3 l0), some (vI l1), some (vI l2), d3, d4, d5], []) (S, T) o := by
  unfold f_End_holdGaps_78 at hx
  try dsimp only at hG
  refine ev_steps 2 (c' := (2, [some (vR 3 l0), some (vI l1), some (vI (l2 + (1 : Int32))), _, _, _], [])) (h' := (S, T)) rfl ?_
  cases hx
  exact hG _ _ _
def f_End_holdGaps_48 (l0 : Nat) (l1 : Int32) (l2 : Int32) (l3 : Int32) (S : St) : Option ((Int32 × St) ⊕ (St)) :=
  bd (f_Outbox_at l0 l3) (fun r83 => if inb (S cSentWord_lastPath r83 0) 2 = true then f_End_holdGaps_78 l0 l1 l2 (up3 (up3 S cSentWord_state r83 0 (4 : Int32)) cPath_good (2 * l0 + ix (S cSentWord_lastPath r83 0)) 0 (1 : Int32)) else none)
theorem t_End_holdGaps_48 (scr : Nat × (Nat → Int32)) (l0 : Nat) (l1 : Int32) (l2 : Int32) (l3 : Int32) (S : St) (T : St) (d4 d5 : Option iV) {x : (Int32 × St) ⊕ (St)} {o : Option iV × SS} (hx : f_End_holdGaps_48 l0 l1 l2 l3 S = some x) (hG : (Sum.elim (fun q => ∀ d3 d4 d5 : Option iV, EB scr 3 3 0 cd_End_holdGaps (2, [some (vR 3 l0), some (vI l1), some (vI q.1), d3, d4, d5], []) (q.2, T) o) (fun x => (none, (x, T)) = o)) x) : EB scr 3 3 0 cd_End_holdGaps (48, [some (vR 3 l0), some (vI l1), some (vI l2), some (vI l3), d4, d5], []) (S, T) o := by
  unfold f_End_holdGaps_48 at hx
  try dsimp only at hG
  refine ev_steps 3 (c' := (53, [some (vR 3 l0), some (vI l1), some (vI l2), some (vI l3), _, _], [vI l3, vR 5 l0])) (h' := (S, T)) rfl ?_
  obtain ⟨r83, hc, hx⟩ := bd_some hx
  refine ev_call rfl rfl rfl rfl rfl rfl rfl rfl rfl ((t_Outbox_at scr l0 l3 S T hc rfl).mono (by decide)) ?_
  refine ev_steps 8 (c' := (73, [some (vR 3 l0), some (vI l1), some (vI l2), some (vI l3), _, some (vR 10 r83)], [vI (S cSentWord_lastPath r83 0), vR 67 l0])) (h' := (up3 S cSentWord_state r83 0 (4 : Int32), T)) rfl ?_
  obtain ⟨hg, hx⟩ := ifg hx
  refine ev_aald3 rfl rfl hg ?_
  refine ev_steps 2 (c' := (78, [some (vR 3 l0), some (vI l1), some (vI l2), some (vI l3), _, some (vR 10 r83)], [])) (h' := (up3 (up3 S cSentWord_state r83 0 (4 : Int32)) cPath_good (2 * l0 + ix (S cSentWord_lastPath r83 0)) 0 (1 : Int32), T)) rfl ?_
  exact t_End_holdGaps_78 scr l0 l1 l2 (up3 (up3 S cSentWord_state r83 0 (4 : Int32)) cPath_good (2 * l0 + ix (S cSentWord_lastPath r83 0)) 0 (1 : Int32)) T _ _ _ hx hG
def f_End_holdGaps_2_b (l0 : Nat) (l1 : Int32)  : (Int32 × St) → Option ((Int32 × St) ⊕ (St))
  | (l2, S) => if l2 < (16 : Int32) then (bd (f_Outbox_stateOf l0 ((S cOutbox_firstNumber l0 0) + l2) S) (fun r81 => if (f_L_isSet l1 l2) = 0 then f_End_holdGaps_78 l0 l1 l2 S else (if r81 = (2 : Int32) then f_End_holdGaps_48 l0 l1 l2 ((S cOutbox_firstNumber l0 0) + l2) S else (if r81 = (3 : Int32) then f_End_holdGaps_48 l0 l1 l2 ((S cOutbox_firstNumber l0 0) + l2) S else f_End_holdGaps_78 l0 l1 l2 S)))) else exW (some S)
def f_End_holdGaps_2 (l0 : Nat) (l1 : Int32)  (q : Int32 × St) : Option (St) := iter (f_End_holdGaps_2_b l0 l1) 4096 q
theorem t_End_holdGaps_2_b (scr : Nat × (Nat → Int32)) (l0 : Nat) (l1 : Int32) (l2 : Int32) (S : St) (T : St) (d3 d4 d5 : Option iV) {x : (Int32 × St) ⊕ (St)} {o : Option iV × SS} (hx : f_End_holdGaps_2_b l0 l1 (l2, S) = some x) (hG : (Sum.elim (fun q => ∀ d3 d4 d5 : Option iV, EB scr 3 3 0 cd_End_holdGaps (2, [some (vR 3 l0), some (vI l1), some (vI q.1), d3, d4, d5], []) (q.2, T) o) (fun x => (none, (x, T)) = o)) x) : EB scr 3 3 0 cd_End_holdGaps (2, [some (vR 3 l0), some (vI l1), some (vI l2), d3, d4, d5], []) (S, T) o := by
  unfold f_End_holdGaps_2_b at hx
  dsimp only at hx
  refine ev_steps 2 (c' := (5, [some (vR 3 l0), some (vI l1), some (vI l2), _, _, _], [vI (16 : Int32), vI l2])) (h' := (S, T)) rfl ?_
  refine ev_icmp_ge rfl (fun hc => ?_) (fun hc => ?_)
  · rw [if_pos hc] at hx
    refine ev_steps 9 (c' := (23, [some (vR 3 l0), some (vI l1), some (vI l2), some (vI ((S cOutbox_firstNumber l0 0) + l2)), _, _], [vI ((S cOutbox_firstNumber l0 0) + l2), vR 5 l0])) (h' := (S, T)) rfl ?_
    obtain ⟨r81, hc, hx⟩ := bd_some hx
    refine ev_call rfl rfl rfl rfl rfl rfl rfl rfl rfl ((t_Outbox_stateOf scr l0 ((S cOutbox_firstNumber l0 0) + l2) S T hc rfl).mono (by decide)) ?_
    refine ev_steps 3 (c' := (30, [some (vR 3 l0), some (vI l1), some (vI l2), some (vI ((S cOutbox_firstNumber l0 0) + l2)), some (vI r81), _], [vI l2, vI l1])) (h' := (S, T)) rfl ?_
    refine ev_call rfl rfl rfl rfl rfl rfl rfl rfl rfl ((t_L_isSet scr l1 l2 S T rfl).mono (by decide)) ?_
    refine ev_steps 0 (c' := (33, [some (vR 3 l0), some (vI l1), some (vI l2), some (vI ((S cOutbox_firstNumber l0 0) + l2)), some (vI r81), _], [vI (f_L_isSet l1 l2)])) (h' := (S, T)) rfl ?_
    refine ev_if_eq rfl (fun hc => ?_) (fun hc => ?_)
    · rw [if_pos hc] at hx
      exact t_End_holdGaps_78 scr l0 l1 l2 S T _ _ _ hx hG
    · rw [if_neg hc] at hx
      refine ev_steps 2 (c' := (39, [some (vR 3 l0), some (vI l1), some (vI l2), some (vI ((S cOutbox_firstNumber l0 0) + l2)), some (vI r81), _], [vI (2 : Int32), vI r81])) (h' := (S, T)) rfl ?_
      refine ev_icmp_eq rfl (fun hc => ?_) (fun hc => ?_)
      · rw [if_pos hc] at hx
        exact t_End_holdGaps_48 scr l0 l1 l2 ((S cOutbox_firstNumber l0 0) + l2) S T _ _ hx hG
      · rw [if_neg hc] at hx
        refine ev_steps 2 (c' := (45, [some (vR 3 l0), some (vI l1), some (vI l2), some (vI ((S cOutbox_firstNumber l0 0) + l2)), some (vI r81), _], [vI (3 : Int32), vI r81])) (h' := (S, T)) rfl ?_
        refine ev_icmp_ne rfl (fun hc => ?_) (fun hc => ?_)
        · rw [if_pos hc] at hx
          exact t_End_holdGaps_48 scr l0 l1 l2 ((S cOutbox_firstNumber l0 0) + l2) S T _ _ hx hG
        · rw [if_neg hc] at hx
          exact t_End_holdGaps_78 scr l0 l1 l2 S T _ _ _ hx hG
  · rw [if_neg hc] at hx
    obtain ⟨x, hy, rfl⟩ := exW_some hx
    replace hx := hy
    simp only [Sum.elim_inr] at hG
    cases hx
    subst hG
    exact ev_ret rfl rfl
theorem t_End_holdGaps_2 (scr : Nat × (Nat → Int32)) (l0 : Nat) (l1 : Int32) (l2 : Int32) (S : St) (T : St) (d3 d4 d5 : Option iV) {x : St} {o : Option iV × SS} (hx : f_End_holdGaps_2 l0 l1 (l2, S) = some x) (hG : (fun x => (none, (x, T)) = o) x) : EB scr 3 3 0 cd_End_holdGaps (2, [some (vR 3 l0), some (vI l1), some (vI l2), d3, d4, d5], []) (S, T) o := by
  exact iter_ind (P := fun q => ∀ d3 d4 d5 : Option iV, EB scr 3 3 0 cd_End_holdGaps (2, [some (vR 3 l0), some (vI l1), some (vI q.1), d3, d4, d5], []) (q.2, T) o) (G := fun x => (none, (x, T)) = o) (fun q x hb hP d3 d4 d5 => t_End_holdGaps_2_b scr l0 l1 q.1 q.2 T d3 d4 d5 hb hP) hx hG d3 d4 d5
def f_End_holdGaps (u : Nat) (a1 : Int32) (S : St) : Option (St) :=
  f_End_holdGaps_2 u a1 ((0 : Int32), S)
theorem t_End_holdGaps (scr : Nat × (Nat → Int32)) (u : Nat) (a1 : Int32) (S T : St) {x : St} {o : Option iV × SS} (hx : f_End_holdGaps u a1 S = some x) (hG : (none, (x, T)) = o) : E0 scr 4 98 [vR 3 u, vI a1] (S, T) o := by
  refine ev_meth (ls := [some (vR 3 u), some (vI a1), none, none, none, none]) rfl rfl rfl ?_
  unfold f_End_holdGaps at hx
  refine ev_steps 2 (c' := (2, [some (vR 3 u), some (vI a1), some (vI (0 : Int32)), none, none, none], [])) (h' := (S, T)) rfl ?_
  exact t_End_holdGaps_2 scr u a1 (0 : Int32) S T _ _ _ hx hG
-- Math_min
def f_Math_min (a0 : Int32) (a1 : Int32) : Int32 :=
  if a1 < a0 then a1 else a0
theorem t_Math_min (scr : Nat × (Nat → Int32)) (a0 : Int32) (a1 : Int32) (S T : St) {o : Option iV × SS} (hG : (some (vI (f_Math_min a0 a1)), (S, T)) = o) : E0 scr 1 159 [vI a0, vI a1] (S, T) o := by
  refine ev_meth (ls := [some (vI a0), some (vI a1)]) rfl rfl rfl ?_
  unfold f_Math_min at hG
  refine ev_steps 2 (c' := (2, [some (vI a0), some (vI a1)], [vI a1, vI a0])) (h' := (S, T)) rfl ?_
  refine ev_icmp_gt rfl (fun hc => ?_) (fun hc => ?_)
  · rw [if_pos hc] at hG
    refine ev_steps 1 (c' := (10, [some (vI a0), some (vI a1)], [vI a1])) (h' := (S, T)) rfl ?_
    subst hG
    exact ev_ret rfl rfl
  · rw [if_neg hc] at hG
    refine ev_steps 2 (c' := (10, [some (vI a0), some (vI a1)], [vI a0])) (h' := (S, T)) rfl ?_
    subst hG
    exact ev_ret rfl rfl
-- Path_reward
def f_Path_reward (u : Nat) (S : St) : St :=
  up3 (up3 (up3 (up3 S cPath_errors u 0 (0 : Int32)) cPath_wait u 0 (3 : Int32)) cPath_rate u 0 (f_Math_min (8 : Int32) ((S cPath_rate u 0) + (1 : Int32)))) cPath_active u 0 (1 : Int32)
theorem t_Path_reward (scr : Nat × (Nat → Int32)) (u : Nat) (S T : St) {o : Option iV × SS} (hG : (none, ((f_Path_reward u S), T)) = o) : E0 scr 2 139 [vR 7 u] (S, T) o := by
  refine ev_meth (ls := [some (vR 7 u)]) rfl rfl rfl ?_
  unfold f_Path_reward at hG
  refine ev_steps 12 (c' := (19, [some (vR 7 u)], [vI ((S cPath_rate u 0) + (1 : Int32)), vI (8 : Int32), vR 7 u])) (h' := (up3 (up3 S cPath_errors u 0 (0 : Int32)) cPath_wait u 0 (3 : Int32), T)) rfl ?_
  refine ev_call rfl rfl rfl rfl rfl rfl rfl rfl rfl ((t_Math_min scr (8 : Int32) ((S cPath_rate u 0) + (1 : Int32)) (up3 (up3 S cPath_errors u 0 (0 : Int32)) cPath_wait u 0 (3 : Int32)) T rfl).mono (by decide)) ?_
  refine ev_steps 4 (c' := (30, [some (vR 7 u)], [])) (h' := (up3 (up3 (up3 (up3 S cPath_errors u 0 (0 : Int32)) cPath_wait u 0 (3 : Int32)) cPath_rate u 0 (f_Math_min (8 : Int32) ((S cPath_rate u 0) + (1 : Int32)))) cPath_active u 0 (1 : Int32), T)) rfl ?_
  subst hG
  exact ev_ret rfl rfl
-- End_rewardGoodPaths
def f_End_rewardGoodPaths_33 (l0 : Nat) (l1 : Int32) (S : St) : Option ((Int32 × St) ⊕ (St)) :=
  some (Sum.inl (l1 + (1 : Int32), S))
theorem t_End_rewardGoodPaths_33 (scr : Nat × (Nat → Int32)) (l0 : Nat) (l1 : Int32) (S : St) (T : St) {x : (Int32 × St) ⊕ (St)} {o : Option iV × SS} (hx : f_End_rewardGoodPaths_33 l0 l1 S = some x) (hG : (Sum.elim (fun q => EB scr 2 3 0 cd_End_rewardGoodPaths (2, [some (vR 3 l0), some (vI q.1)], []) (q.2, T) o) (fun x => (none, (x, T)) = o)) x) : EB scr 2 3 0 cd_End_rewardGoodPaths (33, [some (vR 3 l0), some (vI l1)], []) (S, T) o := by
  unfold f_End_rewardGoodPaths_33 at hx
  try dsimp only at hG
  refine ev_steps 2 (c' := (2, [some (vR 3 l0), some (vI (l1 + (1 : Int32)))], [])) (h' := (S, T)) rfl ?_
  cases hx
  exact hG
def f_End_rewardGoodPaths_2_b (l0 : Nat)  : (Int32 × St) → Option ((Int32 × St) ⊕ (St))
  | (l1, S) => if l1 < (2 : Int32) then (if inb l1 2 = true then if (nz (S cPath_good (2 * l0 + ix l1) 0)) = 0 then f_End_rewardGoodPaths_33 l0 l1 S else (if inb l1 2 = true then f_End_rewardGoodPaths_33 l0 l1 (up3 (f_Path_reward (2 * l0 + ix l1) S) cEnd_allErrors l0 0 (0 : Int32)) else none) else none) else exW (some S)
def f_End_rewardGoodPaths_2 (l0 : Nat)  (q : Int32 × St) : Option (St) := iter (f_End_rewardGoodPaths_2_b l0) 4096 q
theorem t_End_rewardGoodPaths_2_b (scr : Nat × (Nat → Int32)) (l0 : Nat) (l1 : Int32) (S : St) (T : St) {x : (Int32 × St) ⊕ (St)} {o : Option iV × SS} (hx : f_End_rewardGoodPaths_2_b l0 (l1, S) = some x) (hG : (Sum.elim (fun q => EB scr 2 3 0 cd_End_rewardGoodPaths (2, [some (vR 3 l0), some (vI q.1)], []) (q.2, T) o) (fun x => (none, (x, T)) = o)) x) : EB scr 2 3 0 cd_End_rewardGoodPaths (2, [some (vR 3 l0), some (vI l1)], []) (S, T) o := by
  unfold f_End_rewardGoodPaths_2_b at hx
  dsimp only at hx
  refine ev_steps 2 (c' := (4, [some (vR 3 l0), some (vI l1)], [vI (2 : Int32), vI l1])) (h' := (S, T)) rfl ?_
  refine ev_icmp_ge rfl (fun hc => ?_) (fun hc => ?_)
  · rw [if_pos hc] at hx
    refine ev_steps 3 (c' := (12, [some (vR 3 l0), some (vI l1)], [vI l1, vR 67 l0])) (h' := (S, T)) rfl ?_
    obtain ⟨hg, hx⟩ := ifg hx
    refine ev_aald3 rfl rfl hg ?_
    refine ev_steps 1 (c' := (16, [some (vR 3 l0), some (vI l1)], [vI (nz (S cPath_good (2 * l0 + ix l1) 0))])) (h' := (S, T)) rfl ?_
    refine ev_if_eq rfl (fun hc => ?_) (fun hc => ?_)
    · rw [if_pos hc] at hx
      exact t_End_rewardGoodPaths_33 scr l0 l1 S T hx hG
    · rw [if_neg hc] at hx
      refine ev_steps 3 (c' := (24, [some (vR 3 l0), some (vI l1)], [vI l1, vR 67 l0])) (h' := (S, T)) rfl ?_
      obtain ⟨hg, hx⟩ := ifg hx
      refine ev_aald3 rfl rfl hg ?_
      refine ev_steps 0 (c' := (25, [some (vR 3 l0), some (vI l1)], [vR 7 (2 * l0 + ix l1)])) (h' := (S, T)) rfl ?_
      refine ev_call rfl rfl rfl rfl rfl rfl rfl rfl rfl ((t_Path_reward scr (2 * l0 + ix l1) S T rfl).mono (by decide)) ?_
      refine ev_steps 3 (c' := (33, [some (vR 3 l0), some (vI l1)], [])) (h' := (up3 (f_Path_reward (2 * l0 + ix l1) S) cEnd_allErrors l0 0 (0 : Int32), T)) rfl ?_
      exact t_End_rewardGoodPaths_33 scr l0 l1 (up3 (f_Path_reward (2 * l0 + ix l1) S) cEnd_allErrors l0 0 (0 : Int32)) T hx hG
  · rw [if_neg hc] at hx
    obtain ⟨x, hy, rfl⟩ := exW_some hx
    replace hx := hy
    simp only [Sum.elim_inr] at hG
    cases hx
    subst hG
    exact ev_ret rfl rfl
theorem t_End_rewardGoodPaths_2 (scr : Nat × (Nat → Int32)) (l0 : Nat) (l1 : Int32) (S : St) (T : St) {x : St} {o : Option iV × SS} (hx : f_End_rewardGoodPaths_2 l0 (l1, S) = some x) (hG : (fun x => (none, (x, T)) = o) x) : EB scr 2 3 0 cd_End_rewardGoodPaths (2, [some (vR 3 l0), some (vI l1)], []) (S, T) o := by
  exact iter_ind (P := fun q => EB scr 2 3 0 cd_End_rewardGoodPaths (2, [some (vR 3 l0), some (vI q.1)], []) (q.2, T) o) (G := fun x => (none, (x, T)) = o) (fun q x hb hP  => t_End_rewardGoodPaths_2_b scr l0 q.1 q.2 T hb hP) hx hG 
def f_End_rewardGoodPaths (u : Nat) (S : St) : Option (St) :=
  f_End_rewardGoodPaths_2 u ((0 : Int32), S)
theorem t_End_rewardGoodPaths (scr : Nat × (Nat → Int32)) (u : Nat) (S T : St) {x : St} {o : Option iV × SS} (hx : f_End_rewardGoodPaths u S = some x) (hG : (none, (x, T)) = o) : E0 scr 3 99 [vR 3 u] (S, T) o := by
  refine ev_meth (ls := [some (vR 3 u), none]) rfl rfl rfl ?_
  unfold f_End_rewardGoodPaths at hx
  refine ev_steps 2 (c' := (2, [some (vR 3 u), some (vI (0 : Int32))], [])) (h' := (S, T)) rfl ?_
  exact t_End_rewardGoodPaths_2 scr u (0 : Int32) S T hx hG
-- Math_max
def f_Math_max (a0 : Int32) (a1 : Int32) : Int32 :=
  if a0 < a1 then a1 else a0
theorem t_Math_max (scr : Nat × (Nat → Int32)) (a0 : Int32) (a1 : Int32) (S T : St) {o : Option iV × SS} (hG : (some (vI (f_Math_max a0 a1)), (S, T)) = o) : E0 scr 1 158 [vI a0, vI a1] (S, T) o := by
  refine ev_meth (ls := [some (vI a0), some (vI a1)]) rfl rfl rfl ?_
  unfold f_Math_max at hG
  refine ev_steps 2 (c' := (2, [some (vI a0), some (vI a1)], [vI a1, vI a0])) (h' := (S, T)) rfl ?_
  refine ev_icmp_lt rfl (fun hc => ?_) (fun hc => ?_)
  · rw [if_pos hc] at hG
    refine ev_steps 1 (c' := (10, [some (vI a0), some (vI a1)], [vI a1])) (h' := (S, T)) rfl ?_
    subst hG
    exact ev_ret rfl rfl
  · rw [if_neg hc] at hG
    refine ev_steps 2 (c' := (10, [some (vI a0), some (vI a1)], [vI a0])) (h' := (S, T)) rfl ?_
    subst hG
    exact ev_ret rfl rfl
-- End_strike
def f_End_strike (u : Nat) (u1 : Nat) (S : St) : Option (St) :=
  if ((up3 S cSentWord_strikes u1 0 ((S cSentWord_strikes u1 0) + (1 : Int32))) cSentWord_strikes u1 0) < (3 : Int32) then some (up3 S cSentWord_strikes u1 0 ((S cSentWord_strikes u1 0) + (1 : Int32))) else (if inb (S cSentWord_lastPath u1 0) 2 = true then some (up3 (up3 (up3 (up3 S cSentWord_strikes u1 0 ((S cSentWord_strikes u1 0) + (1 : Int32))) cSentWord_state u1 0 (3 : Int32)) cSentWord_strikes u1 0 (0 : Int32)) cPath_rate (2 * u + ix (S cSentWord_lastPath u1 0)) 0 (f_Math_max (1 : Int32) ((S cPath_rate (2 * u + ix (S cSentWord_lastPath u1 0)) 0) / (2 : Int32)))) else none)
theorem t_End_strike (scr : Nat × (Nat → Int32)) (u : Nat) (u1 : Nat) (S T : St) {x : St} {o : Option iV × SS} (hx : f_End_strike u u1 S = some x) (hG : (none, (x, T)) = o) : E0 scr 2 101 [vR 3 u, vR 10 u1] (S, T) o := by
  refine ev_meth (ls := [some (vR 3 u), some (vR 10 u1), none]) rfl rfl rfl ?_
  unfold f_End_strike at hx
  refine ev_steps 9 (c' := (15, [some (vR 3 u), some (vR 10 u1), none], [vI (3 : Int32), vI ((up3 S cSentWord_strikes u1 0 ((S cSentWord_strikes u1 0) + (1 : Int32))) cSentWord_strikes u1 0)])) (h' := (up3 S cSentWord_strikes u1 0 ((S cSentWord_strikes u1 0) + (1 : Int32)), T)) rfl ?_
  refine ev_icmp_lt rfl (fun hc => ?_) (fun hc => ?_)
  · rw [if_pos hc] at hx
    cases hx
    subst hG
    exact ev_ret rfl rfl
  · rw [if_neg hc] at hx
    refine ev_steps 10 (c' := (36, [some (vR 3 u), some (vR 10 u1), none], [vI (S cSentWord_lastPath u1 0), vR 67 u])) (h' := (up3 (up3 (up3 S cSentWord_strikes u1 0 ((S cSentWord_strikes u1 0) + (1 : Int32))) cSentWord_state u1 0 (3 : Int32)) cSentWord_strikes u1 0 (0 : Int32), T)) rfl ?_
    obtain ⟨hg, hx⟩ := ifg hx
    refine ev_aald3 rfl rfl hg ?_
    refine ev_steps 7 (c' := (46, [some (vR 3 u), some (vR 10 u1), some (vR 7 (2 * u + ix (S cSentWord_lastPath u1 0)))], [vI ((S cPath_rate (2 * u + ix (S cSentWord_lastPath u1 0)) 0) / (2 : Int32)), vI (1 : Int32), vR 7 (2 * u + ix (S cSentWord_lastPath u1 0))])) (h' := (up3 (up3 (up3 S cSentWord_strikes u1 0 ((S cSentWord_strikes u1 0) + (1 : Int32))) cSentWord_state u1 0 (3 : Int32)) cSentWord_strikes u1 0 (0 : Int32), T)) rfl ?_
    refine ev_call rfl rfl rfl rfl rfl rfl rfl rfl rfl ((t_Math_max scr (1 : Int32) ((S cPath_rate (2 * u + ix (S cSentWord_lastPath u1 0)) 0) / (2 : Int32)) (up3 (up3 (up3 S cSentWord_strikes u1 0 ((S cSentWord_strikes u1 0) + (1 : Int32))) cSentWord_state u1 0 (3 : Int32)) cSentWord_strikes u1 0 (0 : Int32)) T rfl).mono (by decide)) ?_
    refine ev_steps 1 (c' := (52, [some (vR 3 u), some (vR 10 u1), some (vR 7 (2 * u + ix (S cSentWord_lastPath u1 0)))], [])) (h' := (up3 (up3 (up3 (up3 S cSentWord_strikes u1 0 ((S cSentWord_strikes u1 0) + (1 : Int32))) cSentWord_state u1 0 (3 : Int32)) cSentWord_strikes u1 0 (0 : Int32)) cPath_rate (2 * u + ix (S cSentWord_lastPath u1 0)) 0 (f_Math_max (1 : Int32) ((S cPath_rate (2 * u + ix (S cSentWord_lastPath u1 0)) 0) / (2 : Int32))), T)) rfl ?_
    cases hx
    subst hG
    exact ev_ret rfl rfl
-- End_strikeBelow
def f_End_strikeBelow_65 (l0 : Nat) (l2 : Int32) (l3 : Int32) (S : St) : Option ((Int32 × St) ⊕ (St)) :=
  some (Sum.inl (l3 + (1 : Int32), S))
theorem t_End_strikeBelow_65 (scr : Nat × (Nat → Int32)) (l0 : Nat) (l2 : Int32) (l3 : Int32) (S : St) (T : St) (d1 d4 : Option iV) {x : (Int32 × St) ⊕ (St)} {o : Option iV × SS} (hx : f_End_strikeBelow_65 l0 l2 l3 S = some x) (hG : (Sum.elim (fun q => ∀ d1 d4 : Option iV, EB scr 3 3 0 cd_End_strikeBelow (23, [some (vR 3 l0), d1, some (vI l2), some (vI q.1), d4], []) (q.2, T) o) (fun x => (none, (x, T)) = o)) x) : EB scr 3 3 0 cd_End_strikeBelow (65, [some (vR 3 l0), d1, some (vI l2), some (vI l3), d4], []) (S, T) o := by
  unfold f_End_strikeBelow_65 at hx
  try dsimp only at hG
  refine ev_steps 2 (c' := (23, [some (vR 3 l0), _, some (vI l2), some (vI (l3 + (1 : Int32))), _], [])) (h' := (S, T)) rfl ?_
  cases hx
  exact hG _ _
def f_End_strikeBelow_23_b (l0 : Nat) (l2 : Int32)  : (Int32 × St) → Option ((Int32 × St) ⊕ (St))
  | (l3, S) => if l3 < l2 then (bd (f_Outbox_stateOf l0 ((S cOutbox_firstNumber l0 0) + l3) S) (fun r85 => if r85 = (2 : Int32) then (bd (f_Outbox_at l0 ((S cOutbox_firstNumber l0 0) + l3)) (fun r87 => bd (f_End_strike l0 r87 S) (fun S90 => f_End_strikeBelow_65 l0 l2 l3 S90))) else f_End_strikeBelow_65 l0 l2 l3 S)) else exW (some S)
def f_End_strikeBelow_23 (l0 : Nat) (l2 : Int32)  (q : Int32 × St) : Option (St) := iter (f_End_strikeBelow_23_b l0 l2) 4096 q
theorem t_End_strikeBelow_23_b (scr : Nat × (Nat → Int32)) (l0 : Nat) (l2 : Int32) (l3 : Int32) (S : St) (T : St) (d1 d4 : Option iV) {x : (Int32 × St) ⊕ (St)} {o : Option iV × SS} (hx : f_End_strikeBelow_23_b l0 l2 (l3, S) = some x) (hG : (Sum.elim (fun q => ∀ d1 d4 : Option iV, EB scr 3 3 0 cd_End_strikeBelow (23, [some (vR 3 l0), d1, some (vI l2), some (vI q.1), d4], []) (q.2, T) o) (fun x => (none, (x, T)) = o)) x) : EB scr 3 3 0 cd_End_strikeBelow (23, [some (vR 3 l0), d1, some (vI l2), some (vI l3), d4], []) (S, T) o := by
  unfold f_End_strikeBelow_23_b at hx
  dsimp only at hx
  refine ev_steps 2 (c' := (25, [some (vR 3 l0), _, some (vI l2), some (vI l3), _], [vI l2, vI l3])) (h' := (S, T)) rfl ?_
  refine ev_icmp_ge rfl (fun hc => ?_) (fun hc => ?_)
  · rw [if_pos hc] at hx
    refine ev_steps 9 (c' := (45, [some (vR 3 l0), _, some (vI l2), some (vI l3), some (vI ((S cOutbox_firstNumber l0 0) + l3))], [vI ((S cOutbox_firstNumber l0 0) + l3), vR 5 l0])) (h' := (S, T)) rfl ?_
    obtain ⟨r85, hc, hx⟩ := bd_some hx
    refine ev_call rfl rfl rfl rfl rfl rfl rfl rfl rfl ((t_Outbox_stateOf scr l0 ((S cOutbox_firstNumber l0 0) + l3) S T hc rfl).mono (by decide)) ?_
    refine ev_steps 1 (c' := (49, [some (vR 3 l0), _, some (vI l2), some (vI l3), some (vI ((S cOutbox_firstNumber l0 0) + l3))], [vI (2 : Int32), vI r85])) (h' := (S, T)) rfl ?_
    refine ev_icmp_ne rfl (fun hc => ?_) (fun hc => ?_)
    · rw [if_pos hc] at hx
      refine ev_steps 4 (c' := (59, [some (vR 3 l0), _, some (vI l2), some (vI l3), some (vI ((S cOutbox_firstNumber l0 0) + l3))], [vI ((S cOutbox_firstNumber l0 0) + l3), vR 5 l0, vR 3 l0])) (h' := (S, T)) rfl ?_
      obtain ⟨r87, hc, hx⟩ := bd_some hx
      refine ev_call rfl rfl rfl rfl rfl rfl rfl rfl rfl ((t_Outbox_at scr l0 ((S cOutbox_firstNumber l0 0) + l3) S T hc rfl).mono (by decide)) ?_
      refine ev_steps 0 (c' := (62, [some (vR 3 l0), _, some (vI l2), some (vI l3), some (vI ((S cOutbox_firstNumber l0 0) + l3))], [vR 10 r87, vR 3 l0])) (h' := (S, T)) rfl ?_
      obtain ⟨S90, hc, hx⟩ := bd_some hx
      refine ev_call rfl rfl rfl rfl rfl rfl rfl rfl rfl ((t_End_strike scr l0 r87 S T hc rfl).mono (by decide)) ?_
      refine ev_steps 0 (c' := (65, [some (vR 3 l0), _, some (vI l2), some (vI l3), some (vI ((S cOutbox_firstNumber l0 0) + l3))], [])) (h' := (S90, T)) rfl ?_
      exact t_End_strikeBelow_65 scr l0 l2 l3 S90 T _ _ hx hG
    · rw [if_neg hc] at hx
      exact t_End_strikeBelow_65 scr l0 l2 l3 S T _ _ hx hG
  · rw [if_neg hc] at hx
    obtain ⟨x, hy, rfl⟩ := exW_some hx
    replace hx := hy
    simp only [Sum.elim_inr] at hG
    cases hx
    subst hG
    exact ev_ret rfl rfl
theorem t_End_strikeBelow_23 (scr : Nat × (Nat → Int32)) (l0 : Nat) (l2 : Int32) (l3 : Int32) (S : St) (T : St) (d1 d4 : Option iV) {x : St} {o : Option iV × SS} (hx : f_End_strikeBelow_23 l0 l2 (l3, S) = some x) (hG : (fun x => (none, (x, T)) = o) x) : EB scr 3 3 0 cd_End_strikeBelow (23, [some (vR 3 l0), d1, some (vI l2), some (vI l3), d4], []) (S, T) o := by
  exact iter_ind (P := fun q => ∀ d1 d4 : Option iV, EB scr 3 3 0 cd_End_strikeBelow (23, [some (vR 3 l0), d1, some (vI l2), some (vI q.1), d4], []) (q.2, T) o) (G := fun x => (none, (x, T)) = o) (fun q x hb hP d1 d4 => t_End_strikeBelow_23_b scr l0 l2 q.1 q.2 T d1 d4 hb hP) hx hG d1 d4
def f_End_strikeBelow_21 (l0 : Nat) (l2 : Int32) (S : St) : Option (St) :=
  f_End_strikeBelow_23 l0 l2 ((0 : Int32), S)
theorem t_End_strikeBelow_21 (scr : Nat × (Nat → Int32)) (l0 : Nat) (l2 : Int32) (S : St) (T : St) (d1 d3 d4 : Option iV) {x : St} {o : Option iV × SS} (hx : f_End_strikeBelow_21 l0 l2 S = some x) (hG : (fun x => (none, (x, T)) = o) x) : EB scr 3 3 0 cd_End_strikeBelow (21, [some (vR 3 l0), d1, some (vI l2), d3, d4], []) (S, T) o := by
  unfold f_End_strikeBelow_21 at hx
  try dsimp only at hG
  refine ev_steps 2 (c' := (23, [some (vR 3 l0), _, some (vI l2), some (vI (0 : Int32)), _], [])) (h' := (S, T)) rfl ?_
  exact t_End_strikeBelow_23 scr l0 l2 (0 : Int32) S T _ _ hx hG
def f_End_strikeBelow_3_b (l0 : Nat) (l1 : Int32) (S : St) : (Int32) → Option ((Int32) ⊕ (St))
  | l2 => if 0 < l2 then (if (f_L_isSet l1 l2) = 0 then some (Sum.inl (l2 + (-1 : Int32))) else exW (f_End_strikeBelow_21 l0 l2 S)) else exW (f_End_strikeBelow_21 l0 l2 S)
def f_End_strikeBelow_3 (l0 : Nat) (l1 : Int32) (S : St) (q : Int32) : Option (St) := iter (f_End_strikeBelow_3_b l0 l1 S) 4096 q
theorem t_End_strikeBelow_3_b (scr : Nat × (Nat → Int32)) (l0 : Nat) (l1 : Int32) (l2 : Int32) (S : St) (T : St) (d3 d4 : Option iV) {x : (Int32) ⊕ (St)} {o : Option iV × SS} (hx : f_End_strikeBelow_3_b l0 l1 S l2 = some x) (hG : (Sum.elim (fun q => ∀ d3 d4 : Option iV, EB scr 3 3 0 cd_End_strikeBelow (3, [some (vR 3 l0), some (vI l1), some (vI q), d3, d4], []) (S, T) o) (fun x => (none, (x, T)) = o)) x) : EB scr 3 3 0 cd_End_strikeBelow (3, [some (vR 3 l0), some (vI l1), some (vI l2), d3, d4], []) (S, T) o := by
  unfold f_End_strikeBelow_3_b at hx
  dsimp only at hx
  refine ev_steps 1 (c' := (4, [some (vR 3 l0), some (vI l1), some (vI l2), _, _], [vI l2])) (h' := (S, T)) rfl ?_
  refine ev_if_le rfl (fun hc => ?_) (fun hc => ?_)
  · rw [if_pos hc] at hx
    refine ev_steps 2 (c' := (9, [some (vR 3 l0), some (vI l1), some (vI l2), _, _], [vI l2, vI l1])) (h' := (S, T)) rfl ?_
    refine ev_call rfl rfl rfl rfl rfl rfl rfl rfl rfl ((t_L_isSet scr l1 l2 S T rfl).mono (by decide)) ?_
    refine ev_steps 0 (c' := (12, [some (vR 3 l0), some (vI l1), some (vI l2), _, _], [vI (f_L_isSet l1 l2)])) (h' := (S, T)) rfl ?_
    refine ev_if_ne rfl (fun hc => ?_) (fun hc => ?_)
    · rw [if_pos hc] at hx
      refine ev_steps 2 (c' := (3, [some (vR 3 l0), some (vI l1), some (vI (l2 + (-1 : Int32))), _, _], [])) (h' := (S, T)) rfl ?_
      cases hx
      exact hG _ _
    · rw [if_neg hc] at hx
      obtain ⟨x, hy, rfl⟩ := exW_some hx
      replace hx := hy
      simp only [Sum.elim_inr] at hG
      exact t_End_strikeBelow_21 scr l0 l2 S T _ _ _ hx hG
  · rw [if_neg hc] at hx
    obtain ⟨x, hy, rfl⟩ := exW_some hx
    replace hx := hy
    simp only [Sum.elim_inr] at hG
    exact t_End_strikeBelow_21 scr l0 l2 S T _ _ _ hx hG
theorem t_End_strikeBelow_3 (scr : Nat × (Nat → Int32)) (l0 : Nat) (l1 : Int32) (l2 : Int32) (S : St) (T : St) (d3 d4 : Option iV) {x : St} {o : Option iV × SS} (hx : f_End_strikeBelow_3 l0 l1 S l2 = some x) (hG : (fun x => (none, (x, T)) = o) x) : EB scr 3 3 0 cd_End_strikeBelow (3, [some (vR 3 l0), some (vI l1), some (vI l2), d3, d4], []) (S, T) o := by
  exact iter_ind (P := fun q => ∀ d3 d4 : Option iV, EB scr 3 3 0 cd_End_strikeBelow (3, [some (vR 3 l0), some (vI l1), some (vI q), d3, d4], []) (S, T) o) (G := fun x => (none, (x, T)) = o) (fun q x hb hP d3 d4 => t_End_strikeBelow_3_b scr l0 l1 q S T d3 d4 hb hP) hx hG d3 d4
def f_End_strikeBelow (u : Nat) (a1 : Int32) (S : St) : Option (St) :=
  f_End_strikeBelow_3 u a1 S (15 : Int32)
theorem t_End_strikeBelow (scr : Nat × (Nat → Int32)) (u : Nat) (a1 : Int32) (S T : St) {x : St} {o : Option iV × SS} (hx : f_End_strikeBelow u a1 S = some x) (hG : (none, (x, T)) = o) : E0 scr 4 100 [vR 3 u, vI a1] (S, T) o := by
  refine ev_meth (ls := [some (vR 3 u), some (vI a1), none, none, none]) rfl rfl rfl ?_
  unfold f_End_strikeBelow at hx
  refine ev_steps 2 (c' := (3, [some (vR 3 u), some (vI a1), some (vI (15 : Int32)), none, none], [])) (h' := (S, T)) rfl ?_
  exact t_End_strikeBelow_3 scr u a1 (15 : Int32) S T _ _ hx hG
