/-! Methods as functions on the store, printed by a program. -/
-- M_deliver
def f_M_deliver_27 (S : St) : Option (Int32 × St) :=
  some ((-1 : Int32), S)
set_option maxRecDepth 100000 in
theorem t_M_deliver_27 (scr : Nat × (Nat → Int32)) (S : St) (T : St) (d0 d1 d2 d3 d4 : Option iV) {x : Int32 × St} {o : Option iV × SS} (hx : f_M_deliver_27 S = some x) (hG : (fun x => (some (vI x.1), (T, x.2)) = o) x) : EB scr 4 1 1 cd_M_deliver (27, [d0, d1, d2, d3, d4], []) (T, S) o := by
  unfold f_M_deliver_27 at hx
  try dsimp only at hG
  refine ev_steps 1 (c' := (28, [_, _, _, _, _], [vI (-1 : Int32)])) (h' := (T, S)) rfl ?_
  cases hx
  subst hG
  exact ev_ret rfl rfl
def f_M_deliver_237 (l3 : Int32) (S : St) : Option (Int32 × St) :=
  some (l3, S)
set_option maxRecDepth 100000 in
theorem t_M_deliver_237 (scr : Nat × (Nat → Int32)) (l3 : Int32) (S : St) (T : St) (d0 d1 d2 d4 : Option iV) {x : Int32 × St} {o : Option iV × SS} (hx : f_M_deliver_237 l3 S = some x) (hG : (fun x => (some (vI x.1), (T, x.2)) = o) x) : EB scr 4 1 1 cd_M_deliver (237, [d0, d1, d2, some (vI l3), d4], []) (T, S) o := by
  unfold f_M_deliver_237 at hx
  try dsimp only at hG
  refine ev_steps 1 (c' := (238, [_, _, _, some (vI l3), _], [vI l3])) (h' := (T, S)) rfl ?_
  cases hx
  subst hG
  exact ev_ret rfl rfl
def f_M_deliver_202 (l0 : Nat) (l2 : Int32) (l3 : Int32) (l4 : Int32) (S : St) : Option (Int32 × St) :=
  if inb (0 : Int32) 8 = true then if inb l4 2 = true then if (S cM_arrived l0 (ix (0 : Int32))) = (S cM_own l0 (ix l4)) then (if inb l4 2 = true then if (S cM_state l0 (ix l4)) = (3 : Int32) then (bd (f_M_hear l0 l4 l2 l3 S) (fun S292 => f_M_deliver_237 l3 S292)) else f_M_deliver_237 l3 S else none) else f_M_deliver_237 l3 S else none else none
set_option maxRecDepth 100000 in
theorem t_M_deliver_202 (scr : Nat × (Nat → Int32)) (l0 : Nat) (l2 : Int32) (l3 : Int32) (l4 : Int32) (S : St) (T : St) (d1 : Option iV) {x : Int32 × St} {o : Option iV × SS} (hx : f_M_deliver_202 l0 l2 l3 l4 S = some x) (hG : (fun x => (some (vI x.1), (T, x.2)) = o) x) : EB scr 4 1 1 cd_M_deliver (202, [some (vR 1 l0), d1, some (vI l2), some (vI l3), some (vI l4)], []) (T, S) o := by
  unfold f_M_deliver_202 at hx
  try dsimp only at hG
  refine ev_steps 3 (c' := (207, [some (vR 1 l0), _, some (vI l2), some (vI l3), some (vI l4)], [vI (0 : Int32), vR 78 l0])) (h' := (T, S)) rfl ?_
  obtain ⟨hg, hx⟩ := ifg hx
  refine ev_iald rfl rfl rfl hg ?_
  refine ev_steps 3 (c' := (214, [some (vR 1 l0), _, some (vI l2), some (vI l3), some (vI l4)], [vI l4, vR 80 l0, vI (S cM_arrived l0 (ix (0 : Int32)))])) (h' := (T, S)) rfl ?_
  obtain ⟨hg, hx⟩ := ifg hx
  refine ev_iald rfl rfl rfl hg ?_
  refine ev_steps 0 (c' := (215, [some (vR 1 l0), _, some (vI l2), some (vI l3), some (vI l4)], [vI (S cM_own l0 (ix l4)), vI (S cM_arrived l0 (ix (0 : Int32)))])) (h' := (T, S)) rfl ?_
  refine ev_icmp_ne rfl (fun hc => ?_) (fun hc => ?_)
  · rw [if_pos hc] at hx
    refine ev_steps 3 (c' := (224, [some (vR 1 l0), _, some (vI l2), some (vI l3), some (vI l4)], [vI l4, vR 79 l0])) (h' := (T, S)) rfl ?_
    obtain ⟨hg, hx⟩ := ifg hx
    refine ev_iald rfl rfl rfl hg ?_
    refine ev_steps 1 (c' := (226, [some (vR 1 l0), _, some (vI l2), some (vI l3), some (vI l4)], [vI (3 : Int32), vI (S cM_state l0 (ix l4))])) (h' := (T, S)) rfl ?_
    refine ev_icmp_ne rfl (fun hc => ?_) (fun hc => ?_)
    · rw [if_pos hc] at hx
      refine ev_steps 4 (c' := (234, [some (vR 1 l0), _, some (vI l2), some (vI l3), some (vI l4)], [vI l3, vI l2, vI l4, vR 1 l0])) (h' := (T, S)) rfl ?_
      obtain ⟨S292, hc, hx⟩ := bd_some hx
      refine ev_call rfl rfl rfl rfl rfl rfl rfl rfl rfl ((t_M_hear scr l0 l4 l2 l3 S T hc rfl).mono (by decide)) ?_
      refine ev_steps 0 (c' := (237, [some (vR 1 l0), _, some (vI l2), some (vI l3), some (vI l4)], [])) (h' := (T, S292)) rfl ?_
      exact t_M_deliver_237 scr l3 S292 T _ _ _ _ hx hG
    · rw [if_neg hc] at hx
      exact t_M_deliver_237 scr l3 S T _ _ _ _ hx hG
  · rw [if_neg hc] at hx
    exact t_M_deliver_237 scr l3 S T _ _ _ _ hx hG
def f_M_deliver_146 (l0 : Nat) (l2 : Int32) (l3 : Int32) (l4 : Int32) (S : St) : Option (Int32 × St) :=
  if inb (0 : Int32) 8 = true then if inb l4 2 = true then if (S cM_arrived l0 (ix (0 : Int32))) = (S cM_own l0 (ix l4)) then (if l3 = (3 : Int32) then (if l4 = 0 then (if inb (0 : Int32) 2 = true then if (S cM_state l0 (ix (0 : Int32))) = (2 : Int32) then (if inb (0 : Int32) 2 = true then if inb (0 : Int32) 2 = true then bd (f_M_comeUp l0 (0 : Int32) (S cM_own l0 (ix (0 : Int32))) (S cM_other l0 (ix (0 : Int32))) S) (fun S294 => f_M_deliver_237 l3 S294) else none else none) else f_M_deliver_237 l3 S else none) else f_M_deliver_237 l3 S) else f_M_deliver_202 l0 l2 l3 l4 S) else f_M_deliver_202 l0 l2 l3 l4 S else none else none
set_option maxRecDepth 100000 in
theorem t_M_deliver_146 (scr : Nat × (Nat → Int32)) (l0 : Nat) (l2 : Int32) (l3 : Int32) (l4 : Int32) (S : St) (T : St) (d1 : Option iV) {x : Int32 × St} {o : Option iV × SS} (hx : f_M_deliver_146 l0 l2 l3 l4 S = some x) (hG : (fun x => (some (vI x.1), (T, x.2)) = o) x) : EB scr 4 1 1 cd_M_deliver (146, [some (vR 1 l0), d1, some (vI l2), some (vI l3), some (vI l4)], []) (T, S) o := by
  unfold f_M_deliver_146 at hx
  try dsimp only at hG
  refine ev_steps 3 (c' := (151, [some (vR 1 l0), _, some (vI l2), some (vI l3), some (vI l4)], [vI (0 : Int32), vR 78 l0])) (h' := (T, S)) rfl ?_
  obtain ⟨hg, hx⟩ := ifg hx
  refine ev_iald rfl rfl rfl hg ?_
  refine ev_steps 3 (c' := (158, [some (vR 1 l0), _, some (vI l2), some (vI l3), some (vI l4)], [vI l4, vR 80 l0, vI (S cM_arrived l0 (ix (0 : Int32)))])) (h' := (T, S)) rfl ?_
  obtain ⟨hg, hx⟩ := ifg hx
  refine ev_iald rfl rfl rfl hg ?_
  refine ev_steps 0 (c' := (159, [some (vR 1 l0), _, some (vI l2), some (vI l3), some (vI l4)], [vI (S cM_own l0 (ix l4)), vI (S cM_arrived l0 (ix (0 : Int32)))])) (h' := (T, S)) rfl ?_
  refine ev_icmp_ne rfl (fun hc => ?_) (fun hc => ?_)
  · rw [if_pos hc] at hx
    refine ev_steps 2 (c' := (164, [some (vR 1 l0), _, some (vI l2), some (vI l3), some (vI l4)], [vI (3 : Int32), vI l3])) (h' := (T, S)) rfl ?_
    refine ev_icmp_ne rfl (fun hc => ?_) (fun hc => ?_)
    · rw [if_pos hc] at hx
      refine ev_steps 1 (c' := (169, [some (vR 1 l0), _, some (vI l2), some (vI l3), some (vI l4)], [vI l4])) (h' := (T, S)) rfl ?_
      refine ev_if_ne rfl (fun hc => ?_) (fun hc => ?_)
      · rw [if_pos hc] at hx
        refine ev_steps 3 (c' := (177, [some (vR 1 l0), _, some (vI l2), some (vI l3), some (vI l4)], [vI (0 : Int32), vR 79 l0])) (h' := (T, S)) rfl ?_
        obtain ⟨hg, hx⟩ := ifg hx
        refine ev_iald rfl rfl rfl hg ?_
        refine ev_steps 1 (c' := (179, [some (vR 1 l0), _, some (vI l2), some (vI l3), some (vI l4)], [vI (2 : Int32), vI (S cM_state l0 (ix (0 : Int32)))])) (h' := (T, S)) rfl ?_
        refine ev_icmp_ne rfl (fun hc => ?_) (fun hc => ?_)
        · rw [if_pos hc] at hx
          refine ev_steps 5 (c' := (189, [some (vR 1 l0), _, some (vI l2), some (vI l3), some (vI l4)], [vI (0 : Int32), vR 80 l0, vI (0 : Int32), vR 1 l0])) (h' := (T, S)) rfl ?_
          obtain ⟨hg, hx⟩ := ifg hx
          refine ev_iald rfl rfl rfl hg ?_
          refine ev_steps 3 (c' := (195, [some (vR 1 l0), _, some (vI l2), some (vI l3), some (vI l4)], [vI (0 : Int32), vR 81 l0, vI (S cM_own l0 (ix (0 : Int32))), vI (0 : Int32), vR 1 l0])) (h' := (T, S)) rfl ?_
          obtain ⟨hg, hx⟩ := ifg hx
          refine ev_iald rfl rfl rfl hg ?_
          refine ev_steps 0 (c' := (196, [some (vR 1 l0), _, some (vI l2), some (vI l3), some (vI l4)], [vI (S cM_other l0 (ix (0 : Int32))), vI (S cM_own l0 (ix (0 : Int32))), vI (0 : Int32), vR 1 l0])) (h' := (T, S)) rfl ?_
          obtain ⟨S294, hc, hx⟩ := bd_some hx
          refine ev_call rfl rfl rfl rfl rfl rfl rfl rfl rfl ((t_M_comeUp scr l0 (0 : Int32) (S cM_own l0 (ix (0 : Int32))) (S cM_other l0 (ix (0 : Int32))) S T hc rfl).mono (by decide)) ?_
          refine ev_steps 1 (c' := (237, [some (vR 1 l0), _, some (vI l2), some (vI l3), some (vI l4)], [])) (h' := (T, S294)) rfl ?_
          exact t_M_deliver_237 scr l3 S294 T _ _ _ _ hx hG
        · rw [if_neg hc] at hx
          exact t_M_deliver_237 scr l3 S T _ _ _ _ hx hG
      · rw [if_neg hc] at hx
        exact t_M_deliver_237 scr l3 S T _ _ _ _ hx hG
    · rw [if_neg hc] at hx
      exact t_M_deliver_202 scr l0 l2 l3 l4 S T _ hx hG
  · rw [if_neg hc] at hx
    exact t_M_deliver_202 scr l0 l2 l3 l4 S T _ hx hG
def f_M_deliver (u : Nat) (a1 : Int32) (a2 : Int32) (S : St) : Option (Int32 × St) :=
  if (f_M_isTwo a1) = 0 then f_M_deliver_27 S else (if (f_M_isTwo a2) = 0 then f_M_deliver_27 S else (if inb (((2 : Int32) * a1) + a2) 4 = true then if (S cM_rows u (ix (((2 : Int32) * a1) + a2))) = 0 then f_M_deliver_27 S else (bd (f_M_take u (((2 : Int32) * a1) + a2) S) (fun S290 => if inb (1 : Int32) 8 = true then if (S290 cM_arrived u (ix (1 : Int32))) = 0 then (if ((1 : Int32) - a1) = (1 : Int32) then (if inb (2 : Int32) 8 = true then if (S290 cM_arrived u (ix (2 : Int32))) = 0 then f_M_deliver_237 (S290 cM_arrived u (ix (1 : Int32))) S290 else (if inb (2 : Int32) 8 = true then bd (f_M_init u a2 (S290 cM_arrived u (ix (2 : Int32))) S290) (fun S300 => f_M_deliver_237 (S290 cM_arrived u (ix (1 : Int32))) S300) else none) else none) else f_M_deliver_237 (S290 cM_arrived u (ix (1 : Int32))) S290) else (if (S290 cM_arrived u (ix (1 : Int32))) = (2 : Int32) then (if ((1 : Int32) - a1) = (1 : Int32) then (bd (f_M_echo u a2 S290) (fun S298 => f_M_deliver_237 (S290 cM_arrived u (ix (1 : Int32))) S298)) else f_M_deliver_237 (S290 cM_arrived u (ix (1 : Int32))) S290) else (if inb (0 : Int32) 8 = true then if inb ((1 : Int32) - a1) 2 = true then if (S290 cM_arrived u (ix (0 : Int32))) = (S290 cM_own u (ix ((1 : Int32) - a1))) then (if (S290 cM_arrived u (ix (1 : Int32))) = (1 : Int32) then (if ((1 : Int32) - a1) = 0 then (if inb (0 : Int32) 2 = true then if (S290 cM_state u (ix (0 : Int32))) = (1 : Int32) then (bd (f_M_initAck u a2 S290) (fun S296 => f_M_deliver_237 (S290 cM_arrived u (ix (1 : Int32))) S296)) else f_M_deliver_237 (S290 cM_arrived u (ix (1 : Int32))) S290 else none) else f_M_deliver_237 (S290 cM_arrived u (ix (1 : Int32))) S290) else f_M_deliver_146 u a2 (S290 cM_arrived u (ix (1 : Int32))) ((1 : Int32) - a1) S290) else f_M_deliver_146 u a2 (S290 cM_arrived u (ix (1 : Int32))) ((1 : Int32) - a1) S290 else none else none)) else none)) else none))
set_option maxRecDepth 100000 in
theorem t_M_deliver (scr : Nat × (Nat → Int32)) (u : Nat) (a1 : Int32) (a2 : Int32) (S T : St) {x : Int32 × St} {o : Option iV × SS} (hx : f_M_deliver u a1 a2 S = some x) (hG : (some (vI x.1), (T, x.2)) = o) : E0 scr 5 47 [vR 1 u, vI a1, vI a2] (T, S) o := by
  refine ev_meth (ls := [some (vR 1 u), some (vI a1), some (vI a2), none, none]) rfl rfl rfl ?_
  unfold f_M_deliver at hx
  refine ev_steps 1 (c' := (1, [some (vR 1 u), some (vI a1), some (vI a2), none, none], [vI a1])) (h' := (T, S)) rfl ?_
  refine ev_call rfl rfl rfl rfl rfl rfl rfl rfl rfl ((t_M_isTwo scr a1 S T rfl).mono (by decide)) ?_
  refine ev_steps 0 (c' := (4, [some (vR 1 u), some (vI a1), some (vI a2), none, none], [vI (f_M_isTwo a1)])) (h' := (T, S)) rfl ?_
  refine ev_if_eq rfl (fun hc => ?_) (fun hc => ?_)
  · rw [if_pos hc] at hx
    exact t_M_deliver_27 scr S T _ _ _ _ _ hx hG
  · rw [if_neg hc] at hx
    refine ev_steps 1 (c' := (8, [some (vR 1 u), some (vI a1), some (vI a2), none, none], [vI a2])) (h' := (T, S)) rfl ?_
    refine ev_call rfl rfl rfl rfl rfl rfl rfl rfl rfl ((t_M_isTwo scr a2 S T rfl).mono (by decide)) ?_
    refine ev_steps 0 (c' := (11, [some (vR 1 u), some (vI a1), some (vI a2), none, none], [vI (f_M_isTwo a2)])) (h' := (T, S)) rfl ?_
    refine ev_if_eq rfl (fun hc => ?_) (fun hc => ?_)
    · rw [if_pos hc] at hx
      exact t_M_deliver_27 scr S T _ _ _ _ _ hx hG
    · rw [if_neg hc] at hx
      refine ev_steps 7 (c' := (23, [some (vR 1 u), some (vI a1), some (vI a2), none, none], [vI (((2 : Int32) * a1) + a2), vR 76 u])) (h' := (T, S)) rfl ?_
      obtain ⟨hg, hx⟩ := ifg hx
      refine ev_iald rfl rfl rfl hg ?_
      refine ev_steps 0 (c' := (24, [some (vR 1 u), some (vI a1), some (vI a2), none, none], [vI (S cM_rows u (ix (((2 : Int32) * a1) + a2)))])) (h' := (T, S)) rfl ?_
      refine ev_if_ne rfl (fun hc => ?_) (fun hc => ?_)
      · rw [if_pos hc] at hx
        exact t_M_deliver_27 scr S T _ _ _ _ _ hx hG
      · rw [if_neg hc] at hx
        refine ev_steps 6 (c' := (35, [some (vR 1 u), some (vI a1), some (vI a2), none, none], [vI (((2 : Int32) * a1) + a2), vR 1 u])) (h' := (T, S)) rfl ?_
        obtain ⟨S290, hc, hx⟩ := bd_some hx
        refine ev_call rfl rfl rfl rfl rfl rfl rfl rfl rfl ((t_M_take scr u (((2 : Int32) * a1) + a2) S T hc rfl).mono (by decide)) ?_
        refine ev_steps 3 (c' := (43, [some (vR 1 u), some (vI a1), some (vI a2), none, none], [vI (1 : Int32), vR 78 u])) (h' := (T, S290)) rfl ?_
        obtain ⟨hg, hx⟩ := ifg hx
        refine ev_iald rfl rfl rfl hg ?_
        refine ev_steps 6 (c' := (51, [some (vR 1 u), some (vI a1), some (vI a2), some (vI (S290 cM_arrived u (ix (1 : Int32)))), some (vI ((1 : Int32) - a1))], [vI (S290 cM_arrived u (ix (1 : Int32)))])) (h' := (T, S290)) rfl ?_
        refine ev_if_ne rfl (fun hc => ?_) (fun hc => ?_)
        · rw [if_pos hc] at hx
          refine ev_steps 2 (c' := (57, [some (vR 1 u), some (vI a1), some (vI a2), some (vI (S290 cM_arrived u (ix (1 : Int32)))), some (vI ((1 : Int32) - a1))], [vI (1 : Int32), vI ((1 : Int32) - a1)])) (h' := (T, S290)) rfl ?_
          refine ev_icmp_ne rfl (fun hc => ?_) (fun hc => ?_)
          · rw [if_pos hc] at hx
            refine ev_steps 3 (c' := (65, [some (vR 1 u), some (vI a1), some (vI a2), some (vI (S290 cM_arrived u (ix (1 : Int32)))), some (vI ((1 : Int32) - a1))], [vI (2 : Int32), vR 78 u])) (h' := (T, S290)) rfl ?_
            obtain ⟨hg, hx⟩ := ifg hx
            refine ev_iald rfl rfl rfl hg ?_
            refine ev_steps 0 (c' := (66, [some (vR 1 u), some (vI a1), some (vI a2), some (vI (S290 cM_arrived u (ix (1 : Int32)))), some (vI ((1 : Int32) - a1))], [vI (S290 cM_arrived u (ix (2 : Int32)))])) (h' := (T, S290)) rfl ?_
            refine ev_if_eq rfl (fun hc => ?_) (fun hc => ?_)
            · rw [if_pos hc] at hx
              exact t_M_deliver_237 scr (S290 cM_arrived u (ix (1 : Int32))) S290 T _ _ _ _ hx hG
            · rw [if_neg hc] at hx
              refine ev_steps 5 (c' := (76, [some (vR 1 u), some (vI a1), some (vI a2), some (vI (S290 cM_arrived u (ix (1 : Int32)))), some (vI ((1 : Int32) - a1))], [vI (2 : Int32), vR 78 u, vI a2, vR 1 u])) (h' := (T, S290)) rfl ?_
              obtain ⟨hg, hx⟩ := ifg hx
              refine ev_iald rfl rfl rfl hg ?_
              refine ev_steps 0 (c' := (77, [some (vR 1 u), some (vI a1), some (vI a2), some (vI (S290 cM_arrived u (ix (1 : Int32)))), some (vI ((1 : Int32) - a1))], [vI (S290 cM_arrived u (ix (2 : Int32))), vI a2, vR 1 u])) (h' := (T, S290)) rfl ?_
              obtain ⟨S300, hc, hx⟩ := bd_some hx
              refine ev_call rfl rfl rfl rfl rfl rfl rfl rfl rfl ((t_M_init scr u a2 (S290 cM_arrived u (ix (2 : Int32))) S290 T hc rfl).mono (by decide)) ?_
              refine ev_steps 1 (c' := (237, [some (vR 1 u), some (vI a1), some (vI a2), some (vI (S290 cM_arrived u (ix (1 : Int32)))), some (vI ((1 : Int32) - a1))], [])) (h' := (T, S300)) rfl ?_
              exact t_M_deliver_237 scr (S290 cM_arrived u (ix (1 : Int32))) S300 T _ _ _ _ hx hG
          · rw [if_neg hc] at hx
            exact t_M_deliver_237 scr (S290 cM_arrived u (ix (1 : Int32))) S290 T _ _ _ _ hx hG
        · rw [if_neg hc] at hx
          refine ev_steps 2 (c' := (85, [some (vR 1 u), some (vI a1), some (vI a2), some (vI (S290 cM_arrived u (ix (1 : Int32)))), some (vI ((1 : Int32) - a1))], [vI (2 : Int32), vI (S290 cM_arrived u (ix (1 : Int32)))])) (h' := (T, S290)) rfl ?_
          refine ev_icmp_ne rfl (fun hc => ?_) (fun hc => ?_)
          · rw [if_pos hc] at hx
            refine ev_steps 2 (c' := (91, [some (vR 1 u), some (vI a1), some (vI a2), some (vI (S290 cM_arrived u (ix (1 : Int32)))), some (vI ((1 : Int32) - a1))], [vI (1 : Int32), vI ((1 : Int32) - a1)])) (h' := (T, S290)) rfl ?_
            refine ev_icmp_ne rfl (fun hc => ?_) (fun hc => ?_)
            · rw [if_pos hc] at hx
              refine ev_steps 2 (c' := (96, [some (vR 1 u), some (vI a1), some (vI a2), some (vI (S290 cM_arrived u (ix (1 : Int32)))), some (vI ((1 : Int32) - a1))], [vI a2, vR 1 u])) (h' := (T, S290)) rfl ?_
              obtain ⟨S298, hc, hx⟩ := bd_some hx
              refine ev_call rfl rfl rfl rfl rfl rfl rfl rfl rfl ((t_M_echo scr u a2 S290 T hc rfl).mono (by decide)) ?_
              refine ev_steps 1 (c' := (237, [some (vR 1 u), some (vI a1), some (vI a2), some (vI (S290 cM_arrived u (ix (1 : Int32)))), some (vI ((1 : Int32) - a1))], [])) (h' := (T, S298)) rfl ?_
              exact t_M_deliver_237 scr (S290 cM_arrived u (ix (1 : Int32))) S298 T _ _ _ _ hx hG
            · rw [if_neg hc] at hx
              exact t_M_deliver_237 scr (S290 cM_arrived u (ix (1 : Int32))) S290 T _ _ _ _ hx hG
          · rw [if_neg hc] at hx
            refine ev_steps 3 (c' := (107, [some (vR 1 u), some (vI a1), some (vI a2), some (vI (S290 cM_arrived u (ix (1 : Int32)))), some (vI ((1 : Int32) - a1))], [vI (0 : Int32), vR 78 u])) (h' := (T, S290)) rfl ?_
            obtain ⟨hg, hx⟩ := ifg hx
            refine ev_iald rfl rfl rfl hg ?_
            refine ev_steps 3 (c' := (114, [some (vR 1 u), some (vI a1), some (vI a2), some (vI (S290 cM_arrived u (ix (1 : Int32)))), some (vI ((1 : Int32) - a1))], [vI ((1 : Int32) - a1), vR 80 u, vI (S290 cM_arrived u (ix (0 : Int32)))])) (h' := (T, S290)) rfl ?_
            obtain ⟨hg, hx⟩ := ifg hx
            refine ev_iald rfl rfl rfl hg ?_
            refine ev_steps 0 (c' := (115, [some (vR 1 u), some (vI a1), some (vI a2), some (vI (S290 cM_arrived u (ix (1 : Int32)))), some (vI ((1 : Int32) - a1))], [vI (S290 cM_own u (ix ((1 : Int32) - a1))), vI (S290 cM_arrived u (ix (0 : Int32)))])) (h' := (T, S290)) rfl ?_
            refine ev_icmp_ne rfl (fun hc => ?_) (fun hc => ?_)
            · rw [if_pos hc] at hx
              refine ev_steps 2 (c' := (120, [some (vR 1 u), some (vI a1), some (vI a2), some (vI (S290 cM_arrived u (ix (1 : Int32)))), some (vI ((1 : Int32) - a1))], [vI (1 : Int32), vI (S290 cM_arrived u (ix (1 : Int32)))])) (h' := (T, S290)) rfl ?_
              refine ev_icmp_ne rfl (fun hc => ?_) (fun hc => ?_)
              · rw [if_pos hc] at hx
                refine ev_steps 1 (c' := (125, [some (vR 1 u), some (vI a1), some (vI a2), some (vI (S290 cM_arrived u (ix (1 : Int32)))), some (vI ((1 : Int32) - a1))], [vI ((1 : Int32) - a1)])) (h' := (T, S290)) rfl ?_
                refine ev_if_ne rfl (fun hc => ?_) (fun hc => ?_)
                · rw [if_pos hc] at hx
                  refine ev_steps 3 (c' := (133, [some (vR 1 u), some (vI a1), some (vI a2), some (vI (S290 cM_arrived u (ix (1 : Int32)))), some (vI ((1 : Int32) - a1))], [vI (0 : Int32), vR 79 u])) (h' := (T, S290)) rfl ?_
                  obtain ⟨hg, hx⟩ := ifg hx
                  refine ev_iald rfl rfl rfl hg ?_
                  refine ev_steps 1 (c' := (135, [some (vR 1 u), some (vI a1), some (vI a2), some (vI (S290 cM_arrived u (ix (1 : Int32)))), some (vI ((1 : Int32) - a1))], [vI (1 : Int32), vI (S290 cM_state u (ix (0 : Int32)))])) (h' := (T, S290)) rfl ?_
                  refine ev_icmp_ne rfl (fun hc => ?_) (fun hc => ?_)
                  · rw [if_pos hc] at hx
                    refine ev_steps 2 (c' := (140, [some (vR 1 u), some (vI a1), some (vI a2), some (vI (S290 cM_arrived u (ix (1 : Int32)))), some (vI ((1 : Int32) - a1))], [vI a2, vR 1 u])) (h' := (T, S290)) rfl ?_
                    obtain ⟨S296, hc, hx⟩ := bd_some hx
                    refine ev_call rfl rfl rfl rfl rfl rfl rfl rfl rfl ((t_M_initAck scr u a2 S290 T hc rfl).mono (by decide)) ?_
                    refine ev_steps 1 (c' := (237, [some (vR 1 u), some (vI a1), some (vI a2), some (vI (S290 cM_arrived u (ix (1 : Int32)))), some (vI ((1 : Int32) - a1))], [])) (h' := (T, S296)) rfl ?_
                    exact t_M_deliver_237 scr (S290 cM_arrived u (ix (1 : Int32))) S296 T _ _ _ _ hx hG
                  · rw [if_neg hc] at hx
                    exact t_M_deliver_237 scr (S290 cM_arrived u (ix (1 : Int32))) S290 T _ _ _ _ hx hG
                · rw [if_neg hc] at hx
                  exact t_M_deliver_237 scr (S290 cM_arrived u (ix (1 : Int32))) S290 T _ _ _ _ hx hG
              · rw [if_neg hc] at hx
                exact t_M_deliver_146 scr u a2 (S290 cM_arrived u (ix (1 : Int32))) ((1 : Int32) - a1) S290 T _ hx hG
            · rw [if_neg hc] at hx
              exact t_M_deliver_146 scr u a2 (S290 cM_arrived u (ix (1 : Int32))) ((1 : Int32) - a1) S290 T _ hx hG
-- M_send
def f_M_send_59 (S : St) : Option (Int32 × St) :=
  some ((0 : Int32), S)
set_option maxRecDepth 100000 in
theorem t_M_send_59 (scr : Nat × (Nat → Int32)) (S : St) (T : St) (d0 d1 d2 d3 d4 d5 d6 d7 : Option iV) {x : Int32 × St} {o : Option iV × SS} (hx : f_M_send_59 S = some x) (hG : (fun x => (some (vI x.1), (T, x.2)) = o) x) : EB scr 2 1 2 cd_M_send (59, [d0, d1, d2, d3, d4, d5, d6, d7], []) (T, S) o := by
  unfold f_M_send_59 at hx
  try dsimp only at hG
  refine ev_steps 1 (c' := (60, [_, _, _, _, _, _, _, _], [vI (0 : Int32)])) (h' := (T, S)) rfl ?_
  cases hx
  subst hG
  exact ev_ret rfl rfl
def f_M_send_234 (l0 : Nat) (l1 : Int32) (s0 : Nat) (s1 : Int32) (s2 : Int32) (s3 : Int32) (S : St) : Option (Int32 × St) :=
  if inb s1 6 = true then bd (f_M_sendWhatMay l0 l1 (up3 S cM_orders s0 (ix s1) (s2 + s3))) (fun S302 => some ((1 : Int32), S302)) else none
set_option maxRecDepth 100000 in
theorem t_M_send_234 (scr : Nat × (Nat → Int32)) (l0 : Nat) (l1 : Int32) (s0 : Nat) (s1 : Int32) (s2 : Int32) (s3 : Int32) (S : St) (T : St) (d2 d3 d4 d5 d6 d7 : Option iV) {x : Int32 × St} {o : Option iV × SS} (hx : f_M_send_234 l0 l1 s0 s1 s2 s3 S = some x) (hG : (fun x => (some (vI x.1), (T, x.2)) = o) x) : EB scr 2 1 2 cd_M_send (234, [some (vR 1 l0), some (vI l1), d2, d3, d4, d5, d6, d7], [vI s3, vI s2, vI s1, vR 102 s0]) (T, S) o := by
  unfold f_M_send_234 at hx
  try dsimp only at hG
  refine ev_steps 1 (c' := (235, [some (vR 1 l0), some (vI l1), _, _, _, _, _, _], [vI (s2 + s3), vI s1, vR 102 s0])) (h' := (T, S)) rfl ?_
  obtain ⟨hg, hx⟩ := ifg hx
  refine ev_iast rfl rfl hg ?_
  refine ev_steps 2 (c' := (238, [some (vR 1 l0), some (vI l1), _, _, _, _, _, _], [vI l1, vR 1 l0])) (h' := (T, up3 S cM_orders s0 (ix s1) (s2 + s3))) rfl ?_
  obtain ⟨S302, hc, hx⟩ := bd_some hx
  refine ev_call rfl rfl rfl rfl rfl rfl rfl rfl rfl ((t_M_sendWhatMay scr l0 l1 (up3 S cM_orders s0 (ix s1) (s2 + s3)) T hc rfl).mono (by decide)) ?_
  refine ev_steps 1 (c' := (242, [some (vR 1 l0), some (vI l1), _, _, _, _, _, _], [vI (1 : Int32)])) (h' := (T, S302)) rfl ?_
  cases hx
  subst hG
  exact ev_ret rfl rfl
def f_M_send_190 (l0 : Nat) (l1 : Int32) (l2 : Int32) (l3 : Int32) (l4 : Int32) (l5 : Int32) (l6 : Int32) (l7 : Int32) (s0 : Nat) (s1 : Int32) (s2 : Int32) (s3 : Int32) (S : St) : Option ((Int32 × St) ⊕ (Int32 × St)) :=
  if inb s1 64 = true then if inb l7 64 = true then if inb l7 64 = true then some (Sum.inl (l6 + (1 : Int32), up3 (up3 (up3 S cM_flags s0 (ix s1) (s2 + s3)) cM_sentOn l0 (ix l7) (0 : Int32)) cM_strikes l0 (ix l7) (0 : Int32))) else none else none else none
set_option maxRecDepth 100000 in
theorem t_M_send_190 (scr : Nat × (Nat → Int32)) (l0 : Nat) (l1 : Int32) (l2 : Int32) (l3 : Int32) (l4 : Int32) (l5 : Int32) (l6 : Int32) (l7 : Int32) (s0 : Nat) (s1 : Int32) (s2 : Int32) (s3 : Int32) (S : St) (T : St) {x : (Int32 × St) ⊕ (Int32 × St)} {o : Option iV × SS} (hx : f_M_send_190 l0 l1 l2 l3 l4 l5 l6 l7 s0 s1 s2 s3 S = some x) (hG : (Sum.elim (fun q => ∀ d7 : Option iV, EB scr 2 1 2 cd_M_send (64, [some (vR 1 l0), some (vI l1), some (vI l2), some (vI l3), some (vI l4), some (vI l5), some (vI q.1), d7], []) (T, q.2) o) (fun x => (some (vI x.1), (T, x.2)) = o)) x) : EB scr 2 1 2 cd_M_send (190, [some (vR 1 l0), some (vI l1), some (vI l2), some (vI l3), some (vI l4), some (vI l5), some (vI l6), some (vI l7)], [vI s3, vI s2, vI s1, vR 107 s0]) (T, S) o := by
  unfold f_M_send_190 at hx
  try dsimp only at hG
  refine ev_steps 1 (c' := (191, [some (vR 1 l0), some (vI l1), some (vI l2), some (vI l3), some (vI l4), some (vI l5), some (vI l6), some (vI l7)], [vI (s2 + s3), vI s1, vR 107 s0])) (h' := (T, S)) rfl ?_
  obtain ⟨hg, hx⟩ := ifg hx
  refine ev_iast rfl rfl hg ?_
  refine ev_steps 4 (c' := (199, [some (vR 1 l0), some (vI l1), some (vI l2), some (vI l3), some (vI l4), some (vI l5), some (vI l6), some (vI l7)], [vI (0 : Int32), vI l7, vR 108 l0])) (h' := (T, up3 S cM_flags s0 (ix s1) (s2 + s3))) rfl ?_
  obtain ⟨hg, hx⟩ := ifg hx
  refine ev_iast rfl rfl hg ?_
  refine ev_steps 4 (c' := (207, [some (vR 1 l0), some (vI l1), some (vI l2), some (vI l3), some (vI l4), some (vI l5), some (vI l6), some (vI l7)], [vI (0 : Int32), vI l7, vR 109 l0])) (h' := (T, up3 (up3 S cM_flags s0 (ix s1) (s2 + s3)) cM_sentOn l0 (ix l7) (0 : Int32))) rfl ?_
  obtain ⟨hg, hx⟩ := ifg hx
  refine ev_iast rfl rfl hg ?_
  refine ev_steps 2 (c' := (64, [some (vR 1 l0), some (vI l1), some (vI l2), some (vI l3), some (vI l4), some (vI l5), some (vI (l6 + (1 : Int32))), some (vI l7)], [])) (h' := (T, up3 (up3 (up3 S cM_flags s0 (ix s1) (s2 + s3)) cM_sentOn l0 (ix l7) (0 : Int32)) cM_strikes l0 (ix l7) (0 : Int32))) rfl ?_
  cases hx
  exact hG _
def f_M_send_180 (l0 : Nat) (l1 : Int32) (l2 : Int32) (l3 : Int32) (l4 : Int32) (l5 : Int32) (l6 : Int32) (l7 : Int32) (s0 : Nat) (s1 : Int32) (s2 : Int32) (s3 : Int32) (S : St) : Option ((Int32 × St) ⊕ (Int32 × St)) :=
  if l3 = 0 then f_M_send_190 l0 l1 l2 l3 l4 l5 l6 l7 s0 s1 (s2 + s3) (0 : Int32) S else f_M_send_190 l0 l1 l2 l3 l4 l5 l6 l7 s0 s1 (s2 + s3) (4 : Int32) S
set_option maxRecDepth 100000 in
theorem t_M_send_180 (scr : Nat × (Nat → Int32)) (l0 : Nat) (l1 : Int32) (l2 : Int32) (l3 : Int32) (l4 : Int32) (l5 : Int32) (l6 : Int32) (l7 : Int32) (s0 : Nat) (s1 : Int32) (s2 : Int32) (s3 : Int32) (S : St) (T : St) {x : (Int32 × St) ⊕ (Int32 × St)} {o : Option iV × SS} (hx : f_M_send_180 l0 l1 l2 l3 l4 l5 l6 l7 s0 s1 s2 s3 S = some x) (hG : (Sum.elim (fun q => ∀ d7 : Option iV, EB scr 2 1 2 cd_M_send (64, [some (vR 1 l0), some (vI l1), some (vI l2), some (vI l3), some (vI l4), some (vI l5), some (vI q.1), d7], []) (T, q.2) o) (fun x => (some (vI x.1), (T, x.2)) = o)) x) : EB scr 2 1 2 cd_M_send (180, [some (vR 1 l0), some (vI l1), some (vI l2), some (vI l3), some (vI l4), some (vI l5), some (vI l6), some (vI l7)], [vI s3, vI s2, vI s1, vR 107 s0]) (T, S) o := by
  unfold f_M_send_180 at hx
  try dsimp only at hG
  refine ev_steps 2 (c' := (182, [some (vR 1 l0), some (vI l1), some (vI l2), some (vI l3), some (vI l4), some (vI l5), some (vI l6), some (vI l7)], [vI l3, vI (s2 + s3), vI s1, vR 107 s0])) (h' := (T, S)) rfl ?_
  refine ev_if_eq rfl (fun hc => ?_) (fun hc => ?_)
  · rw [if_pos hc] at hx
    refine ev_steps 1 (c' := (190, [some (vR 1 l0), some (vI l1), some (vI l2), some (vI l3), some (vI l4), some (vI l5), some (vI l6), some (vI l7)], [vI (0 : Int32), vI (s2 + s3), vI s1, vR 107 s0])) (h' := (T, S)) rfl ?_
    exact t_M_send_190 scr l0 l1 l2 l3 l4 l5 l6 l7 s0 s1 (s2 + s3) (0 : Int32) S T hx hG
  · rw [if_neg hc] at hx
    refine ev_steps 2 (c' := (190, [some (vR 1 l0), some (vI l1), some (vI l2), some (vI l3), some (vI l4), some (vI l5), some (vI l6), some (vI l7)], [vI (4 : Int32), vI (s2 + s3), vI s1, vR 107 s0])) (h' := (T, S)) rfl ?_
    exact t_M_send_190 scr l0 l1 l2 l3 l4 l5 l6 l7 s0 s1 (s2 + s3) (4 : Int32) S T hx hG
def f_M_send_166 (l0 : Nat) (l1 : Int32) (l2 : Int32) (l3 : Int32) (l4 : Int32) (l5 : Int32) (l6 : Int32) (l7 : Int32) (s0 : Nat) (s1 : Int32) (s2 : Int32) (S : St) : Option ((Int32 × St) ⊕ (Int32 × St)) :=
  if l6 = (l5 - (1 : Int32)) then f_M_send_180 l0 l1 l2 l3 l4 l5 l6 l7 s0 s1 s2 (2 : Int32) S else f_M_send_180 l0 l1 l2 l3 l4 l5 l6 l7 s0 s1 s2 (0 : Int32) S
set_option maxRecDepth 100000 in
theorem t_M_send_166 (scr : Nat × (Nat → Int32)) (l0 : Nat) (l1 : Int32) (l2 : Int32) (l3 : Int32) (l4 : Int32) (l5 : Int32) (l6 : Int32) (l7 : Int32) (s0 : Nat) (s1 : Int32) (s2 : Int32) (S : St) (T : St) {x : (Int32 × St) ⊕ (Int32 × St)} {o : Option iV × SS} (hx : f_M_send_166 l0 l1 l2 l3 l4 l5 l6 l7 s0 s1 s2 S = some x) (hG : (Sum.elim (fun q => ∀ d7 : Option iV, EB scr 2 1 2 cd_M_send (64, [some (vR 1 l0), some (vI l1), some (vI l2), some (vI l3), some (vI l4), some (vI l5), some (vI q.1), d7], []) (T, q.2) o) (fun x => (some (vI x.1), (T, x.2)) = o)) x) : EB scr 2 1 2 cd_M_send (166, [some (vR 1 l0), some (vI l1), some (vI l2), some (vI l3), some (vI l4), some (vI l5), some (vI l6), some (vI l7)], [vI s2, vI s1, vR 107 s0]) (T, S) o := by
  unfold f_M_send_166 at hx
  try dsimp only at hG
  refine ev_steps 4 (c' := (172, [some (vR 1 l0), some (vI l1), some (vI l2), some (vI l3), some (vI l4), some (vI l5), some (vI l6), some (vI l7)], [vI (l5 - (1 : Int32)), vI l6, vI s2, vI s1, vR 107 s0])) (h' := (T, S)) rfl ?_
  refine ev_icmp_ne rfl (fun hc => ?_) (fun hc => ?_)
  · rw [if_pos hc] at hx
    refine ev_steps 2 (c' := (180, [some (vR 1 l0), some (vI l1), some (vI l2), some (vI l3), some (vI l4), some (vI l5), some (vI l6), some (vI l7)], [vI (2 : Int32), vI s2, vI s1, vR 107 s0])) (h' := (T, S)) rfl ?_
    exact t_M_send_180 scr l0 l1 l2 l3 l4 l5 l6 l7 s0 s1 s2 (2 : Int32) S T hx hG
  · rw [if_neg hc] at hx
    refine ev_steps 1 (c' := (180, [some (vR 1 l0), some (vI l1), some (vI l2), some (vI l3), some (vI l4), some (vI l5), some (vI l6), some (vI l7)], [vI (0 : Int32), vI s2, vI s1, vR 107 s0])) (h' := (T, S)) rfl ?_
    exact t_M_send_180 scr l0 l1 l2 l3 l4 l5 l6 l7 s0 s1 s2 (0 : Int32) S T hx hG
def f_M_send_149 (l0 : Nat) (l1 : Int32) (l2 : Int32) (l3 : Int32) (l4 : Int32) (l5 : Int32) (l6 : Int32) (l7 : Int32) (s0 : Nat) (s1 : Int32) (s2 : Int32) (S : St) : Option ((Int32 × St) ⊕ (Int32 × St)) :=
  if inb s1 64 = true then if l6 = 0 then f_M_send_166 l0 l1 l2 l3 l4 l5 l6 l7 l0 l7 (1 : Int32) (up3 S cM_order s0 (ix s1) s2) else f_M_send_166 l0 l1 l2 l3 l4 l5 l6 l7 l0 l7 (0 : Int32) (up3 S cM_order s0 (ix s1) s2) else none
set_option maxRecDepth 100000 in
theorem t_M_send_149 (scr : Nat × (Nat → Int32)) (l0 : Nat) (l1 : Int32) (l2 : Int32) (l3 : Int32) (l4 : Int32) (l5 : Int32) (l6 : Int32) (l7 : Int32) (s0 : Nat) (s1 : Int32) (s2 : Int32) (S : St) (T : St) {x : (Int32 × St) ⊕ (Int32 × St)} {o : Option iV × SS} (hx : f_M_send_149 l0 l1 l2 l3 l4 l5 l6 l7 s0 s1 s2 S = some x) (hG : (Sum.elim (fun q => ∀ d7 : Option iV, EB scr 2 1 2 cd_M_send (64, [some (vR 1 l0), some (vI l1), some (vI l2), some (vI l3), some (vI l4), some (vI l5), some (vI q.1), d7], []) (T, q.2) o) (fun x => (some (vI x.1), (T, x.2)) = o)) x) : EB scr 2 1 2 cd_M_send (149, [some (vR 1 l0), some (vI l1), some (vI l2), some (vI l3), some (vI l4), some (vI l5), some (vI l6), some (vI l7)], [vI s2, vI s1, vR 106 s0]) (T, S) o := by
  unfold f_M_send_149 at hx
  try dsimp only at hG
  obtain ⟨hg, hx⟩ := ifg hx
  refine ev_iast rfl rfl hg ?_
  refine ev_steps 4 (c' := (158, [some (vR 1 l0), some (vI l1), some (vI l2), some (vI l3), some (vI l4), some (vI l5), some (vI l6), some (vI l7)], [vI l6, vI l7, vR 107 l0])) (h' := (T, up3 S cM_order s0 (ix s1) s2)) rfl ?_
  refine ev_if_ne rfl (fun hc => ?_) (fun hc => ?_)
  · rw [if_pos hc] at hx
    refine ev_steps 2 (c' := (166, [some (vR 1 l0), some (vI l1), some (vI l2), some (vI l3), some (vI l4), some (vI l5), some (vI l6), some (vI l7)], [vI (1 : Int32), vI l7, vR 107 l0])) (h' := (T, up3 S cM_order s0 (ix s1) s2)) rfl ?_
    exact t_M_send_166 scr l0 l1 l2 l3 l4 l5 l6 l7 l0 l7 (1 : Int32) (up3 S cM_order s0 (ix s1) s2) T hx hG
  · rw [if_neg hc] at hx
    refine ev_steps 1 (c' := (166, [some (vR 1 l0), some (vI l1), some (vI l2), some (vI l3), some (vI l4), some (vI l5), some (vI l6), some (vI l7)], [vI (0 : Int32), vI l7, vR 107 l0])) (h' := (T, up3 S cM_order s0 (ix s1) s2)) rfl ?_
    exact t_M_send_166 scr l0 l1 l2 l3 l4 l5 l6 l7 l0 l7 (0 : Int32) (up3 S cM_order s0 (ix s1) s2) T hx hG
def f_M_send_64_b (l0 : Nat) (l1 : Int32) (l2 : Int32) (l3 : Int32) (l4 : Int32) (l5 : Int32)  : (Int32 × St) → Option ((Int32 × St) ⊕ (Int32 × St))
  | (l6, S) => if l6 < l5 then (if inb l1 2 = true then if inb l1 2 = true then if inb l1 2 = true then if inb (((32 : Int32) * l1) + (iRem ((up3 S cM_given l0 (ix l1) ((S cM_given l0 (ix l1)) + (1 : Int32))) cM_given l0 (ix l1)) (32 : Int32))) 64 = true then if inb (((32 : Int32) * l1) + (iRem ((up3 S cM_given l0 (ix l1) ((S cM_given l0 (ix l1)) + (1 : Int32))) cM_given l0 (ix l1)) (32 : Int32))) 64 = true then if inb (((32 : Int32) * l1) + (iRem ((up3 S cM_given l0 (ix l1) ((S cM_given l0 (ix l1)) + (1 : Int32))) cM_given l0 (ix l1)) (32 : Int32))) 64 = true then if l3 = 0 then (if inb (((3 : Int32) * l1) + l2) 6 = true then f_M_send_149 l0 l1 l2 l3 l4 l5 l6 (((32 : Int32) * l1) + (iRem ((up3 S cM_given l0 (ix l1) ((S cM_given l0 (ix l1)) + (1 : Int32))) cM_given l0 (ix l1)) (32 : Int32))) l0 (((32 : Int32) * l1) + (iRem ((up3 S cM_given l0 (ix l1) ((S cM_given l0 (ix l1)) + (1 : Int32))) cM_given l0 (ix l1)) (32 : Int32))) (S cM_orders l0 (ix (((3 : Int32) * l1) + l2))) (up3 (up3 (up3 (up3 S cM_given l0 (ix l1) ((S cM_given l0 (ix l1)) + (1 : Int32))) cM_word l0 (ix (((32 : Int32) * l1) + (iRem ((up3 S cM_given l0 (ix l1) ((S cM_given l0 (ix l1)) + (1 : Int32))) cM_given l0 (ix l1)) (32 : Int32)))) (1 : Int32)) cM_value l0 (ix (((32 : Int32) * l1) + (iRem ((up3 S cM_given l0 (ix l1) ((S cM_given l0 (ix l1)) + (1 : Int32))) cM_given l0 (ix l1)) (32 : Int32)))) (l4 + l6)) cM_stream l0 (ix (((32 : Int32) * l1) + (iRem ((up3 S cM_given l0 (ix l1) ((S cM_given l0 (ix l1)) + (1 : Int32))) cM_given l0 (ix l1)) (32 : Int32)))) l2) else none) else f_M_send_149 l0 l1 l2 l3 l4 l5 l6 (((32 : Int32) * l1) + (iRem ((up3 S cM_given l0 (ix l1) ((S cM_given l0 (ix l1)) + (1 : Int32))) cM_given l0 (ix l1)) (32 : Int32))) l0 (((32 : Int32) * l1) + (iRem ((up3 S cM_given l0 (ix l1) ((S cM_given l0 (ix l1)) + (1 : Int32))) cM_given l0 (ix l1)) (32 : Int32))) (0 : Int32) (up3 (up3 (up3 (up3 S cM_given l0 (ix l1) ((S cM_given l0 (ix l1)) + (1 : Int32))) cM_word l0 (ix (((32 : Int32) * l1) + (iRem ((up3 S cM_given l0 (ix l1) ((S cM_given l0 (ix l1)) + (1 : Int32))) cM_given l0 (ix l1)) (32 : Int32)))) (1 : Int32)) cM_value l0 (ix (((32 : Int32) * l1) + (iRem ((up3 S cM_given l0 (ix l1) ((S cM_given l0 (ix l1)) + (1 : Int32))) cM_given l0 (ix l1)) (32 : Int32)))) (l4 + l6)) cM_stream l0 (ix (((32 : Int32) * l1) + (iRem ((up3 S cM_given l0 (ix l1) ((S cM_given l0 (ix l1)) + (1 : Int32))) cM_given l0 (ix l1)) (32 : Int32)))) l2) else none else none else none else none else none else none) else exW (if inb (((3 : Int32) * l1) + l2) 6 = true then if l3 = 0 then f_M_send_234 l0 l1 l0 (((3 : Int32) * l1) + l2) (S cM_orders l0 (ix (((3 : Int32) * l1) + l2))) (1 : Int32) S else f_M_send_234 l0 l1 l0 (((3 : Int32) * l1) + l2) (S cM_orders l0 (ix (((3 : Int32) * l1) + l2))) (0 : Int32) S else none)
def f_M_send_64 (l0 : Nat) (l1 : Int32) (l2 : Int32) (l3 : Int32) (l4 : Int32) (l5 : Int32)  (q : Int32 × St) : Option (Int32 × St) := iter (f_M_send_64_b l0 l1 l2 l3 l4 l5) 4096 q
set_option maxRecDepth 100000 in
theorem t_M_send_64_b (scr : Nat × (Nat → Int32)) (l0 : Nat) (l1 : Int32) (l2 : Int32) (l3 : Int32) (l4 : Int32) (l5 : Int32) (l6 : Int32) (S : St) (T : St) (d7 : Option iV) {x : (Int32 × St) ⊕ (Int32 × St)} {o : Option iV × SS} (hx : f_M_send_64_b l0 l1 l2 l3 l4 l5 (l6, S) = some x) (hG : (Sum.elim (fun q => ∀ d7 : Option iV, EB scr 2 1 2 cd_M_send (64, [some (vR 1 l0), some (vI l1), some (vI l2), some (vI l3), some (vI l4), some (vI l5), some (vI q.1), d7], []) (T, q.2) o) (fun x => (some (vI x.1), (T, x.2)) = o)) x) : EB scr 2 1 2 cd_M_send (64, [some (vR 1 l0), some (vI l1), some (vI l2), some (vI l3), some (vI l4), some (vI l5), some (vI l6), d7], []) (T, S) o := by
  unfold f_M_send_64_b at hx
  dsimp only at hx
  refine ev_steps 2 (c' := (68, [some (vR 1 l0), some (vI l1), some (vI l2), some (vI l3), some (vI l4), some (vI l5), some (vI l6), _], [vI l5, vI l6])) (h' := (T, S)) rfl ?_
  refine ev_icmp_ge rfl (fun hc => ?_) (fun hc => ?_)
  · rw [if_pos hc] at hx
    refine ev_steps 4 (c' := (77, [some (vR 1 l0), some (vI l1), some (vI l2), some (vI l3), some (vI l4), some (vI l5), some (vI l6), _], [vI l1, vR 101 l0, vI l1, vR 101 l0])) (h' := (T, S)) rfl ?_
    obtain ⟨hg, hx⟩ := ifg hx
    refine ev_iald rfl rfl rfl hg ?_
    refine ev_steps 2 (c' := (80, [some (vR 1 l0), some (vI l1), some (vI l2), some (vI l3), some (vI l4), some (vI l5), some (vI l6), _], [vI ((S cM_given l0 (ix l1)) + (1 : Int32)), vI l1, vR 101 l0])) (h' := (T, S)) rfl ?_
    obtain ⟨hg, hx⟩ := ifg hx
    refine ev_iast rfl rfl hg ?_
    refine ev_steps 6 (c' := (90, [some (vR 1 l0), some (vI l1), some (vI l2), some (vI l3), some (vI l4), some (vI l5), some (vI l6), _], [vI l1, vR 101 l0, vI ((32 : Int32) * l1)])) (h' := (T, up3 S cM_given l0 (ix l1) ((S cM_given l0 (ix l1)) + (1 : Int32)))) rfl ?_
    obtain ⟨hg, hx⟩ := ifg hx
    refine ev_iald rfl rfl rfl hg ?_
    refine ev_steps 8 (c' := (104, [some (vR 1 l0), some (vI l1), some (vI l2), some (vI l3), some (vI l4), some (vI l5), some (vI l6), some (vI (((32 : Int32) * l1) + (iRem ((up3 S cM_given l0 (ix l1) ((S cM_given l0 (ix l1)) + (1 : Int32))) cM_given l0 (ix l1)) (32 : Int32))))], [vI (1 : Int32), vI (((32 : Int32) * l1) + (iRem ((up3 S cM_given l0 (ix l1) ((S cM_given l0 (ix l1)) + (1 : Int32))) cM_given l0 (ix l1)) (32 : Int32))), vR 103 l0])) (h' := (T, up3 S cM_given l0 (ix l1) ((S cM_given l0 (ix l1)) + (1 : Int32)))) rfl ?_
    obtain ⟨hg, hx⟩ := ifg hx
    refine ev_iast rfl rfl hg ?_
    refine ev_steps 6 (c' := (116, [some (vR 1 l0), some (vI l1), some (vI l2), some (vI l3), some (vI l4), some (vI l5), some (vI l6), some (vI (((32 : Int32) * l1) + (iRem ((up3 S cM_given l0 (ix l1) ((S cM_given l0 (ix l1)) + (1 : Int32))) cM_given l0 (ix l1)) (32 : Int32))))], [vI (l4 + l6), vI (((32 : Int32) * l1) + (iRem ((up3 S cM_given l0 (ix l1) ((S cM_given l0 (ix l1)) + (1 : Int32))) cM_given l0 (ix l1)) (32 : Int32))), vR 104 l0])) (h' := (T, up3 (up3 S cM_given l0 (ix l1) ((S cM_given l0 (ix l1)) + (1 : Int32))) cM_word l0 (ix (((32 : Int32) * l1) + (iRem ((up3 S cM_given l0 (ix l1) ((S cM_given l0 (ix l1)) + (1 : Int32))) cM_given l0 (ix l1)) (32 : Int32)))) (1 : Int32))) rfl ?_
    obtain ⟨hg, hx⟩ := ifg hx
    refine ev_iast rfl rfl hg ?_
    refine ev_steps 4 (c' := (124, [some (vR 1 l0), some (vI l1), some (vI l2), some (vI l3), some (vI l4), some (vI l5), some (vI l6), some (vI (((32 : Int32) * l1) + (iRem ((up3 S cM_given l0 (ix l1) ((S cM_given l0 (ix l1)) + (1 : Int32))) cM_given l0 (ix l1)) (32 : Int32))))], [vI l2, vI (((32 : Int32) * l1) + (iRem ((up3 S cM_given l0 (ix l1) ((S cM_given l0 (ix l1)) + (1 : Int32))) cM_given l0 (ix l1)) (32 : Int32))), vR 105 l0])) (h' := (T, up3 (up3 (up3 S cM_given l0 (ix l1) ((S cM_given l0 (ix l1)) + (1 : Int32))) cM_word l0 (ix (((32 : Int32) * l1) + (iRem ((up3 S cM_given l0 (ix l1) ((S cM_given l0 (ix l1)) + (1 : Int32))) cM_given l0 (ix l1)) (32 : Int32)))) (1 : Int32)) cM_value l0 (ix (((32 : Int32) * l1) + (iRem ((up3 S cM_given l0 (ix l1) ((S cM_given l0 (ix l1)) + (1 : Int32))) cM_given l0 (ix l1)) (32 : Int32)))) (l4 + l6))) rfl ?_
    obtain ⟨hg, hx⟩ := ifg hx
    refine ev_iast rfl rfl hg ?_
    refine ev_steps 4 (c' := (132, [some (vR 1 l0), some (vI l1), some (vI l2), some (vI l3), some (vI l4), some (vI l5), some (vI l6), some (vI (((32 : Int32) * l1) + (iRem ((up3 S cM_given l0 (ix l1) ((S cM_given l0 (ix l1)) + (1 : Int32))) cM_given l0 (ix l1)) (32 : Int32))))], [vI l3, vI (((32 : Int32) * l1) + (iRem ((up3 S cM_given l0 (ix l1) ((S cM_given l0 (ix l1)) + (1 : Int32))) cM_given l0 (ix l1)) (32 : Int32))), vR 106 l0])) (h' := (T, up3 (up3 (up3 (up3 S cM_given l0 (ix l1) ((S cM_given l0 (ix l1)) + (1 : Int32))) cM_word l0 (ix (((32 : Int32) * l1) + (iRem ((up3 S cM_given l0 (ix l1) ((S cM_given l0 (ix l1)) + (1 : Int32))) cM_given l0 (ix l1)) (32 : Int32)))) (1 : Int32)) cM_value l0 (ix (((32 : Int32) * l1) + (iRem ((up3 S cM_given l0 (ix l1) ((S cM_given l0 (ix l1)) + (1 : Int32))) cM_given l0 (ix l1)) (32 : Int32)))) (l4 + l6)) cM_stream l0 (ix (((32 : Int32) * l1) + (iRem ((up3 S cM_given l0 (ix l1) ((S cM_given l0 (ix l1)) + (1 : Int32))) cM_given l0 (ix l1)) (32 : Int32)))) l2)) rfl ?_
    refine ev_if_eq rfl (fun hc => ?_) (fun hc => ?_)
    · rw [if_pos hc] at hx
      refine ev_steps 7 (c' := (148, [some (vR 1 l0), some (vI l1), some (vI l2), some (vI l3), some (vI l4), some (vI l5), some (vI l6), some (vI (((32 : Int32) * l1) + (iRem ((up3 S cM_given l0 (ix l1) ((S cM_given l0 (ix l1)) + (1 : Int32))) cM_given l0 (ix l1)) (32 : Int32))))], [vI (((3 : Int32) * l1) + l2), vR 102 l0, vI (((32 : Int32) * l1) + (iRem ((up3 S cM_given l0 (ix l1) ((S cM_given l0 (ix l1)) + (1 : Int32))) cM_given l0 (ix l1)) (32 : Int32))), vR 106 l0])) (h' := (T, up3 (up3 (up3 (up3 S cM_given l0 (ix l1) ((S cM_given l0 (ix l1)) + (1 : Int32))) cM_word l0 (ix (((32 : Int32) * l1) + (iRem ((up3 S cM_given l0 (ix l1) ((S cM_given l0 (ix l1)) + (1 : Int32))) cM_given l0 (ix l1)) (32 : Int32)))) (1 : Int32)) cM_value l0 (ix (((32 : Int32) * l1) + (iRem ((up3 S cM_given l0 (ix l1) ((S cM_given l0 (ix l1)) + (1 : Int32))) cM_given l0 (ix l1)) (32 : Int32)))) (l4 + l6)) cM_stream l0 (ix (((32 : Int32) * l1) + (iRem ((up3 S cM_given l0 (ix l1) ((S cM_given l0 (ix l1)) + (1 : Int32))) cM_given l0 (ix l1)) (32 : Int32)))) l2)) rfl ?_
      obtain ⟨hg, hx⟩ := ifg hx
      refine ev_iald rfl rfl rfl hg ?_
      refine ev_steps 0 (c' := (149, [some (vR 1 l0), some (vI l1), some (vI l2), some (vI l3), some (vI l4), some (vI l5), some (vI l6), some (vI (((32 : Int32) * l1) + (iRem ((up3 S cM_given l0 (ix l1) ((S cM_given l0 (ix l1)) + (1 : Int32))) cM_given l0 (ix l1)) (32 : Int32))))], [vI (S cM_orders l0 (ix (((3 : Int32) * l1) + l2))), vI (((32 : Int32) * l1) + (iRem ((up3 S cM_given l0 (ix l1) ((S cM_given l0 (ix l1)) + (1 : Int32))) cM_given l0 (ix l1)) (32 : Int32))), vR 106 l0])) (h' := (T, up3 (up3 (up3 (up3 S cM_given l0 (ix l1) ((S cM_given l0 (ix l1)) + (1 : Int32))) cM_word l0 (ix (((32 : Int32) * l1) + (iRem ((up3 S cM_given l0 (ix l1) ((S cM_given l0 (ix l1)) + (1 : Int32))) cM_given l0 (ix l1)) (32 : Int32)))) (1 : Int32)) cM_value l0 (ix (((32 : Int32) * l1) + (iRem ((up3 S cM_given l0 (ix l1) ((S cM_given l0 (ix l1)) + (1 : Int32))) cM_given l0 (ix l1)) (32 : Int32)))) (l4 + l6)) cM_stream l0 (ix (((32 : Int32) * l1) + (iRem ((up3 S cM_given l0 (ix l1) ((S cM_given l0 (ix l1)) + (1 : Int32))) cM_given l0 (ix l1)) (32 : Int32)))) l2)) rfl ?_
      exact t_M_send_149 scr l0 l1 l2 l3 l4 l5 l6 (((32 : Int32) * l1) + (iRem ((up3 S cM_given l0 (ix l1) ((S cM_given l0 (ix l1)) + (1 : Int32))) cM_given l0 (ix l1)) (32 : Int32))) l0 (((32 : Int32) * l1) + (iRem ((up3 S cM_given l0 (ix l1) ((S cM_given l0 (ix l1)) + (1 : Int32))) cM_given l0 (ix l1)) (32 : Int32))) (S cM_orders l0 (ix (((3 : Int32) * l1) + l2))) (up3 (up3 (up3 (up3 S cM_given l0 (ix l1) ((S cM_given l0 (ix l1)) + (1 : Int32))) cM_word l0 (ix (((32 : Int32) * l1) + (iRem ((up3 S cM_given l0 (ix l1) ((S cM_given l0 (ix l1)) + (1 : Int32))) cM_given l0 (ix l1)) (32 : Int32)))) (1 : Int32)) cM_value l0 (ix (((32 : Int32) * l1) + (iRem ((up3 S cM_given l0 (ix l1) ((S cM_given l0 (ix l1)) + (1 : Int32))) cM_given l0 (ix l1)) (32 : Int32)))) (l4 + l6)) cM_stream l0 (ix (((32 : Int32) * l1) + (iRem ((up3 S cM_given l0 (ix l1) ((S cM_given l0 (ix l1)) + (1 : Int32))) cM_given l0 (ix l1)) (32 : Int32)))) l2) T hx hG
    · rw [if_neg hc] at hx
      refine ev_steps 2 (c' := (149, [some (vR 1 l0), some (vI l1), some (vI l2), some (vI l3), some (vI l4), some (vI l5), some (vI l6), some (vI (((32 : Int32) * l1) + (iRem ((up3 S cM_given l0 (ix l1) ((S cM_given l0 (ix l1)) + (1 : Int32))) cM_given l0 (ix l1)) (32 : Int32))))], [vI (0 : Int32), vI (((32 : Int32) * l1) + (iRem ((up3 S cM_given l0 (ix l1) ((S cM_given l0 (ix l1)) + (1 : Int32))) cM_given l0 (ix l1)) (32 : Int32))), vR 106 l0])) (h' := (T, up3 (up3 (up3 (up3 S cM_given l0 (ix l1) ((S cM_given l0 (ix l1)) + (1 : Int32))) cM_word l0 (ix (((32 : Int32) * l1) + (iRem ((up3 S cM_given l0 (ix l1) ((S cM_given l0 (ix l1)) + (1 : Int32))) cM_given l0 (ix l1)) (32 : Int32)))) (1 : Int32)) cM_value l0 (ix (((32 : Int32) * l1) + (iRem ((up3 S cM_given l0 (ix l1) ((S cM_given l0 (ix l1)) + (1 : Int32))) cM_given l0 (ix l1)) (32 : Int32)))) (l4 + l6)) cM_stream l0 (ix (((32 : Int32) * l1) + (iRem ((up3 S cM_given l0 (ix l1) ((S cM_given l0 (ix l1)) + (1 : Int32))) cM_given l0 (ix l1)) (32 : Int32)))) l2)) rfl ?_
      exact t_M_send_149 scr l0 l1 l2 l3 l4 l5 l6 (((32 : Int32) * l1) + (iRem ((up3 S cM_given l0 (ix l1) ((S cM_given l0 (ix l1)) + (1 : Int32))) cM_given l0 (ix l1)) (32 : Int32))) l0 (((32 : Int32) * l1) + (iRem ((up3 S cM_given l0 (ix l1) ((S cM_given l0 (ix l1)) + (1 : Int32))) cM_given l0 (ix l1)) (32 : Int32))) (0 : Int32) (up3 (up3 (up3 (up3 S cM_given l0 (ix l1) ((S cM_given l0 (ix l1)) + (1 : Int32))) cM_word l0 (ix (((32 : Int32) * l1) + (iRem ((up3 S cM_given l0 (ix l1) ((S cM_given l0 (ix l1)) + (1 : Int32))) cM_given l0 (ix l1)) (32 : Int32)))) (1 : Int32)) cM_value l0 (ix (((32 : Int32) * l1) + (iRem ((up3 S cM_given l0 (ix l1) ((S cM_given l0 (ix l1)) + (1 : Int32))) cM_given l0 (ix l1)) (32 : Int32)))) (l4 + l6)) cM_stream l0 (ix (((32 : Int32) * l1) + (iRem ((up3 S cM_given l0 (ix l1) ((S cM_given l0 (ix l1)) + (1 : Int32))) cM_given l0 (ix l1)) (32 : Int32)))) l2) T hx hG
  · rw [if_neg hc] at hx
    obtain ⟨x, hy, rfl⟩ := exW_some hx
    replace hx := hy
    simp only [Sum.elim_inr] at hG
    refine ev_steps 8 (c' := (224, [some (vR 1 l0), some (vI l1), some (vI l2), some (vI l3), some (vI l4), some (vI l5), some (vI l6), _], [vI (((3 : Int32) * l1) + l2), vR 102 l0, vI (((3 : Int32) * l1) + l2), vR 102 l0])) (h' := (T, S)) rfl ?_
    obtain ⟨hg, hx⟩ := ifg hx
    refine ev_iald rfl rfl rfl hg ?_
    refine ev_steps 1 (c' := (226, [some (vR 1 l0), some (vI l1), some (vI l2), some (vI l3), some (vI l4), some (vI l5), some (vI l6), _], [vI l3, vI (S cM_orders l0 (ix (((3 : Int32) * l1) + l2))), vI (((3 : Int32) * l1) + l2), vR 102 l0])) (h' := (T, S)) rfl ?_
    refine ev_if_eq rfl (fun hc => ?_) (fun hc => ?_)
    · rw [if_pos hc] at hx
      refine ev_steps 1 (c' := (234, [some (vR 1 l0), some (vI l1), some (vI l2), some (vI l3), some (vI l4), some (vI l5), some (vI l6), _], [vI (1 : Int32), vI (S cM_orders l0 (ix (((3 : Int32) * l1) + l2))), vI (((3 : Int32) * l1) + l2), vR 102 l0])) (h' := (T, S)) rfl ?_
      exact t_M_send_234 scr l0 l1 l0 (((3 : Int32) * l1) + l2) (S cM_orders l0 (ix (((3 : Int32) * l1) + l2))) (1 : Int32) S T _ _ _ _ _ _ hx hG
    · rw [if_neg hc] at hx
      refine ev_steps 2 (c' := (234, [some (vR 1 l0), some (vI l1), some (vI l2), some (vI l3), some (vI l4), some (vI l5), some (vI l6), _], [vI (0 : Int32), vI (S cM_orders l0 (ix (((3 : Int32) * l1) + l2))), vI (((3 : Int32) * l1) + l2), vR 102 l0])) (h' := (T, S)) rfl ?_
      exact t_M_send_234 scr l0 l1 l0 (((3 : Int32) * l1) + l2) (S cM_orders l0 (ix (((3 : Int32) * l1) + l2))) (0 : Int32) S T _ _ _ _ _ _ hx hG
set_option maxRecDepth 100000 in
theorem t_M_send_64 (scr : Nat × (Nat → Int32)) (l0 : Nat) (l1 : Int32) (l2 : Int32) (l3 : Int32) (l4 : Int32) (l5 : Int32) (l6 : Int32) (S : St) (T : St) (d7 : Option iV) {x : Int32 × St} {o : Option iV × SS} (hx : f_M_send_64 l0 l1 l2 l3 l4 l5 (l6, S) = some x) (hG : (fun x => (some (vI x.1), (T, x.2)) = o) x) : EB scr 2 1 2 cd_M_send (64, [some (vR 1 l0), some (vI l1), some (vI l2), some (vI l3), some (vI l4), some (vI l5), some (vI l6), d7], []) (T, S) o := by
  exact iter_ind (P := fun q => ∀ d7 : Option iV, EB scr 2 1 2 cd_M_send (64, [some (vR 1 l0), some (vI l1), some (vI l2), some (vI l3), some (vI l4), some (vI l5), some (vI q.1), d7], []) (T, q.2) o) (G := fun x => (some (vI x.1), (T, x.2)) = o) (fun q x hb hP d7 => t_M_send_64_b scr l0 l1 l2 l3 l4 l5 q.1 q.2 T d7 hb hP) hx hG d7
def f_M_send (u : Nat) (a1 : Int32) (a2 : Int32) (a3 : Int32) (a4 : Int32) (a5 : Int32) (S : St) : Option (Int32 × St) :=
  if (f_M_isTwo a1) = 0 then f_M_send_59 S else (if a2 < 0 then f_M_send_59 S else (if (2 : Int32) < a2 then f_M_send_59 S else (if a5 < (1 : Int32) then f_M_send_59 S else (if (4 : Int32) < a5 then f_M_send_59 S else (if inb a1 2 = true then if (S cM_state u (ix a1)) = (3 : Int32) then (if inb a1 2 = true then if inb a1 2 = true then if (24 : Int32) < (((S cM_given u (ix a1)) - (S cM_gone u (ix a1))) + a5) then f_M_send_59 S else f_M_send_64 u a1 a2 a3 a4 a5 ((0 : Int32), S) else none else none) else f_M_send_59 S else none)))))
set_option maxRecDepth 100000 in
theorem t_M_send (scr : Nat × (Nat → Int32)) (u : Nat) (a1 : Int32) (a2 : Int32) (a3 : Int32) (a4 : Int32) (a5 : Int32) (S T : St) {x : Int32 × St} {o : Option iV × SS} (hx : f_M_send u a1 a2 a3 a4 a5 S = some x) (hG : (some (vI x.1), (T, x.2)) = o) : E0 scr 3 55 [vR 1 u, vI a1, vI a2, vI a3, vI a4, vI a5] (T, S) o := by
  refine ev_meth (ls := [some (vR 1 u), some (vI a1), some (vI a2), some (vI a3), some (vI a4), some (vI a5), none, none]) rfl rfl rfl ?_
  unfold f_M_send at hx
  refine ev_steps 1 (c' := (1, [some (vR 1 u), some (vI a1), some (vI a2), some (vI a3), some (vI a4), some (vI a5), none, none], [vI a1])) (h' := (T, S)) rfl ?_
  refine ev_call rfl rfl rfl rfl rfl rfl rfl rfl rfl ((t_M_isTwo scr a1 S T rfl).mono (by decide)) ?_
  refine ev_steps 0 (c' := (4, [some (vR 1 u), some (vI a1), some (vI a2), some (vI a3), some (vI a4), some (vI a5), none, none], [vI (f_M_isTwo a1)])) (h' := (T, S)) rfl ?_
  refine ev_if_eq rfl (fun hc => ?_) (fun hc => ?_)
  · rw [if_pos hc] at hx
    exact t_M_send_59 scr S T _ _ _ _ _ _ _ _ hx hG
  · rw [if_neg hc] at hx
    refine ev_steps 1 (c' := (8, [some (vR 1 u), some (vI a1), some (vI a2), some (vI a3), some (vI a4), some (vI a5), none, none], [vI a2])) (h' := (T, S)) rfl ?_
    refine ev_if_lt rfl (fun hc => ?_) (fun hc => ?_)
    · rw [if_pos hc] at hx
      exact t_M_send_59 scr S T _ _ _ _ _ _ _ _ hx hG
    · rw [if_neg hc] at hx
      refine ev_steps 2 (c' := (13, [some (vR 1 u), some (vI a1), some (vI a2), some (vI a3), some (vI a4), some (vI a5), none, none], [vI (2 : Int32), vI a2])) (h' := (T, S)) rfl ?_
      refine ev_icmp_gt rfl (fun hc => ?_) (fun hc => ?_)
      · rw [if_pos hc] at hx
        exact t_M_send_59 scr S T _ _ _ _ _ _ _ _ hx hG
      · rw [if_neg hc] at hx
        refine ev_steps 2 (c' := (19, [some (vR 1 u), some (vI a1), some (vI a2), some (vI a3), some (vI a4), some (vI a5), none, none], [vI (1 : Int32), vI a5])) (h' := (T, S)) rfl ?_
        refine ev_icmp_lt rfl (fun hc => ?_) (fun hc => ?_)
        · rw [if_pos hc] at hx
          exact t_M_send_59 scr S T _ _ _ _ _ _ _ _ hx hG
        · rw [if_neg hc] at hx
          refine ev_steps 2 (c' := (25, [some (vR 1 u), some (vI a1), some (vI a2), some (vI a3), some (vI a4), some (vI a5), none, none], [vI (4 : Int32), vI a5])) (h' := (T, S)) rfl ?_
          refine ev_icmp_gt rfl (fun hc => ?_) (fun hc => ?_)
          · rw [if_pos hc] at hx
            exact t_M_send_59 scr S T _ _ _ _ _ _ _ _ hx hG
          · rw [if_neg hc] at hx
            refine ev_steps 3 (c' := (33, [some (vR 1 u), some (vI a1), some (vI a2), some (vI a3), some (vI a4), some (vI a5), none, none], [vI a1, vR 79 u])) (h' := (T, S)) rfl ?_
            obtain ⟨hg, hx⟩ := ifg hx
            refine ev_iald rfl rfl rfl hg ?_
            refine ev_steps 1 (c' := (35, [some (vR 1 u), some (vI a1), some (vI a2), some (vI a3), some (vI a4), some (vI a5), none, none], [vI (3 : Int32), vI (S cM_state u (ix a1))])) (h' := (T, S)) rfl ?_
            refine ev_icmp_ne rfl (fun hc => ?_) (fun hc => ?_)
            · rw [if_pos hc] at hx
              refine ev_steps 3 (c' := (43, [some (vR 1 u), some (vI a1), some (vI a2), some (vI a3), some (vI a4), some (vI a5), none, none], [vI a1, vR 101 u])) (h' := (T, S)) rfl ?_
              obtain ⟨hg, hx⟩ := ifg hx
              refine ev_iald rfl rfl rfl hg ?_
              refine ev_steps 3 (c' := (49, [some (vR 1 u), some (vI a1), some (vI a2), some (vI a3), some (vI a4), some (vI a5), none, none], [vI a1, vR 100 u, vI (S cM_given u (ix a1))])) (h' := (T, S)) rfl ?_
              obtain ⟨hg, hx⟩ := ifg hx
              refine ev_iald rfl rfl rfl hg ?_
              refine ev_steps 4 (c' := (56, [some (vR 1 u), some (vI a1), some (vI a2), some (vI a3), some (vI a4), some (vI a5), none, none], [vI (24 : Int32), vI (((S cM_given u (ix a1)) - (S cM_gone u (ix a1))) + a5)])) (h' := (T, S)) rfl ?_
              refine ev_icmp_le rfl (fun hc => ?_) (fun hc => ?_)
              · rw [if_pos hc] at hx
                exact t_M_send_59 scr S T _ _ _ _ _ _ _ _ hx hG
              · rw [if_neg hc] at hx
                refine ev_steps 2 (c' := (64, [some (vR 1 u), some (vI a1), some (vI a2), some (vI a3), some (vI a4), some (vI a5), some (vI (0 : Int32)), none], [])) (h' := (T, S)) rfl ?_
                exact t_M_send_64 scr u a1 a2 a3 a4 a5 (0 : Int32) S T _ hx hG
            · rw [if_neg hc] at hx
              exact t_M_send_59 scr S T _ _ _ _ _ _ _ _ hx hG
-- M_isStream
def f_M_isStream_13 : Int32 :=
  (0 : Int32)
theorem t_M_isStream_13 (scr : Nat × (Nat → Int32)) (S : St) (T : St) (d0 : Option iV) {o : Option iV × SS} (hG : (fun x => (some (vI x), (T, S)) = o) (f_M_isStream_13)) : EB scr 0 1 2 cd_M_isStream (13, [d0], []) (T, S) o := by
  unfold f_M_isStream_13 at hG
  try dsimp only at hG
  refine ev_steps 1 (c' := (14, [_], [vI (0 : Int32)])) (h' := (T, S)) rfl ?_
  subst hG
  exact ev_ret rfl rfl
def f_M_isStream (a0 : Int32) : Int32 :=
  if a0 < 0 then f_M_isStream_13 else (if (2 : Int32) < a0 then f_M_isStream_13 else (1 : Int32))
theorem t_M_isStream (scr : Nat × (Nat → Int32)) (a0 : Int32) (S T : St) {o : Option iV × SS} (hG : (some (vI (f_M_isStream a0)), (T, S)) = o) : E0 scr 1 62 [vI a0] (T, S) o := by
  refine ev_meth (ls := [some (vI a0)]) rfl rfl rfl ?_
  unfold f_M_isStream at hG
  refine ev_steps 1 (c' := (1, [some (vI a0)], [vI a0])) (h' := (T, S)) rfl ?_
  refine ev_if_lt rfl (fun hc => ?_) (fun hc => ?_)
  · rw [if_pos hc] at hG
    exact t_M_isStream_13 scr S T _ hG
  · rw [if_neg hc] at hG
    refine ev_steps 2 (c' := (6, [some (vI a0)], [vI (2 : Int32), vI a0])) (h' := (T, S)) rfl ?_
    refine ev_icmp_gt rfl (fun hc => ?_) (fun hc => ?_)
    · rw [if_pos hc] at hG
      exact t_M_isStream_13 scr S T _ hG
    · rw [if_neg hc] at hG
      refine ev_steps 2 (c' := (14, [some (vI a0)], [vI (1 : Int32)])) (h' := (T, S)) rfl ?_
      subst hG
      exact ev_ret rfl rfl
