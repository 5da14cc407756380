/-! Methods as functions on the store, printed by a program. -/
-- M_init
def f_M_init (u : Nat) (a1 : Int32) (a2 : Int32) (S : St) : Option (St) :=
  bd (f_M_full u (1 : Int32) a1 S) (fun r233 => bd (f_M_post u (1 : Int32) a1 a2 (1 : Int32) (f_M_tagFor u a2 S) a2 S) (fun S236 => if r233 = 0 then (bd (f_M_more u ((2 : Int32) + a1) (f_M_tagFor u a2 S) (S236 cM_now u 0) (f_M_seal u a2 (f_M_tagFor u a2 S) (S236 cM_now u 0) S236) (0 : Int32) S236) (fun S238 => some S238)) else some S236))
theorem t_M_init (scr : Nat × (Nat → Int32)) (u : Nat) (a1 : Int32) (a2 : Int32) (S T : St) {x : St} {o : Option iV × SS} (hx : f_M_init u a1 a2 S = some x) (hG : (none, (T, x)) = o) : E0 scr 3 48 [vR 1 u, vI a1, vI a2] (T, S) o := by
  refine ev_meth (ls := [some (vR 1 u), some (vI a1), some (vI a2), none, none]) rfl rfl rfl ?_
  unfold f_M_init at hx
  refine ev_steps 2 (c' := (2, [some (vR 1 u), some (vI a1), some (vI a2), none, none], [vI a2, vR 1 u])) (h' := (T, S)) rfl ?_
  refine ev_call rfl rfl rfl rfl rfl rfl rfl rfl rfl ((t_M_tagFor scr u a2 S T rfl).mono (by decide)) ?_
  refine ev_steps 4 (c' := (9, [some (vR 1 u), some (vI a1), some (vI a2), some (vI (f_M_tagFor u a2 S)), none], [vI a1, vI (1 : Int32), vR 1 u])) (h' := (T, S)) rfl ?_
  obtain ⟨r233, hc, hx⟩ := bd_some hx
  refine ev_call rfl rfl rfl rfl rfl rfl rfl rfl rfl ((t_M_full scr u (1 : Int32) a1 S T hc rfl).mono (by decide)) ?_
  refine ev_steps 8 (c' := (21, [some (vR 1 u), some (vI a1), some (vI a2), some (vI (f_M_tagFor u a2 S)), some (vI r233)], [vI a2, vI (f_M_tagFor u a2 S), vI (1 : Int32), vI a2, vI a1, vI (1 : Int32), vR 1 u])) (h' := (T, S)) rfl ?_
  obtain ⟨S236, hc, hx⟩ := bd_some hx
  refine ev_call rfl rfl rfl rfl rfl rfl rfl rfl rfl ((t_M_post scr u (1 : Int32) a1 a2 (1 : Int32) (f_M_tagFor u a2 S) a2 S T hc rfl).mono (by decide)) ?_
  refine ev_steps 1 (c' := (26, [some (vR 1 u), some (vI a1), some (vI a2), some (vI (f_M_tagFor u a2 S)), some (vI r233)], [vI r233])) (h' := (T, S236)) rfl ?_
  refine ev_if_ne rfl (fun hc => ?_) (fun hc => ?_)
  · rw [if_pos hc] at hx
    refine ev_steps 12 (c' := (45, [some (vR 1 u), some (vI a1), some (vI a2), some (vI (f_M_tagFor u a2 S)), some (vI r233)], [vI (S236 cM_now u 0), vI (f_M_tagFor u a2 S), vI a2, vR 1 u, vI (S236 cM_now u 0), vI (f_M_tagFor u a2 S), vI ((2 : Int32) + a1), vR 1 u])) (h' := (T, S236)) rfl ?_
    refine ev_call rfl rfl rfl rfl rfl rfl rfl rfl rfl ((t_M_seal scr u a2 (f_M_tagFor u a2 S) (S236 cM_now u 0) S236 T rfl).mono (by decide)) ?_
    refine ev_steps 1 (c' := (49, [some (vR 1 u), some (vI a1), some (vI a2), some (vI (f_M_tagFor u a2 S)), some (vI r233)], [vI (0 : Int32), vI (f_M_seal u a2 (f_M_tagFor u a2 S) (S236 cM_now u 0) S236), vI (S236 cM_now u 0), vI (f_M_tagFor u a2 S), vI ((2 : Int32) + a1), vR 1 u])) (h' := (T, S236)) rfl ?_
    obtain ⟨S238, hc, hx⟩ := bd_some hx
    refine ev_call rfl rfl rfl rfl rfl rfl rfl rfl rfl ((t_M_more scr u ((2 : Int32) + a1) (f_M_tagFor u a2 S) (S236 cM_now u 0) (f_M_seal u a2 (f_M_tagFor u a2 S) (S236 cM_now u 0) S236) (0 : Int32) S236 T hc rfl).mono (by decide)) ?_
    refine ev_steps 0 (c' := (52, [some (vR 1 u), some (vI a1), some (vI a2), some (vI (f_M_tagFor u a2 S)), some (vI r233)], [])) (h' := (T, S238)) rfl ?_
    cases hx
    subst hG
    exact ev_ret rfl rfl
  · rw [if_neg hc] at hx
    cases hx
    subst hG
    exact ev_ret rfl rfl
-- M_among_wasUp
def f_M_among_wasUp_28 (l0 : Nat) (l1 : Int32) (l2 : Int32) (l4 : Int32) (s0 : Int32) (S : St) : Option ((Int32 × Int32) ⊕ (Int32)) :=
  some (Sum.inl (s0, l4 + (1 : Int32)))
theorem t_M_among_wasUp_28 (scr : Nat × (Nat → Int32)) (l0 : Nat) (l1 : Int32) (l2 : Int32) (l4 : Int32) (s0 : Int32) (S : St) (T : St) (d3 : Option iV) {x : (Int32 × Int32) ⊕ (Int32)} {o : Option iV × SS} (hx : f_M_among_wasUp_28 l0 l1 l2 l4 s0 S = some x) (hG : (Sum.elim (fun q => EB scr 0 1 2 cd_M_among (5, [some (vR 85 l0), some (vI l1), some (vI l2), some (vI q.1), some (vI q.2)], []) (T, S) o) (fun x => (some (vI x), (T, S)) = o)) x) : EB scr 0 1 2 cd_M_among (28, [some (vR 85 l0), some (vI l1), some (vI l2), d3, some (vI l4)], [vI s0]) (T, S) o := by
  unfold f_M_among_wasUp_28 at hx
  try dsimp only at hG
  refine ev_steps 3 (c' := (5, [some (vR 85 l0), some (vI l1), some (vI l2), some (vI s0), some (vI (l4 + (1 : Int32)))], [])) (h' := (T, S)) rfl ?_
  cases hx
  exact hG
def f_M_among_wasUp_23 (l0 : Nat) (l1 : Int32) (l2 : Int32) (l4 : Int32) (S : St) : Option ((Int32 × Int32) ⊕ (Int32)) :=
  f_M_among_wasUp_28 l0 l1 l2 l4 (1 : Int32) S
theorem t_M_among_wasUp_23 (scr : Nat × (Nat → Int32)) (l0 : Nat) (l1 : Int32) (l2 : Int32) (l4 : Int32) (S : St) (T : St) (d3 : Option iV) {x : (Int32 × Int32) ⊕ (Int32)} {o : Option iV × SS} (hx : f_M_among_wasUp_23 l0 l1 l2 l4 S = some x) (hG : (Sum.elim (fun q => EB scr 0 1 2 cd_M_among (5, [some (vR 85 l0), some (vI l1), some (vI l2), some (vI q.1), some (vI q.2)], []) (T, S) o) (fun x => (some (vI x), (T, S)) = o)) x) : EB scr 0 1 2 cd_M_among (23, [some (vR 85 l0), some (vI l1), some (vI l2), d3, some (vI l4)], []) (T, S) o := by
  unfold f_M_among_wasUp_23 at hx
  try dsimp only at hG
  refine ev_steps 2 (c' := (28, [some (vR 85 l0), some (vI l1), some (vI l2), _, some (vI l4)], [vI (1 : Int32)])) (h' := (T, S)) rfl ?_
  exact t_M_among_wasUp_28 scr l0 l1 l2 l4 (1 : Int32) S T _ hx hG
def f_M_among_wasUp_5_b (l0 : Nat) (l1 : Int32) (l2 : Int32) (S : St) : (Int32 × Int32) → Option ((Int32 × Int32) ⊕ (Int32))
  | (l3, l4) => if l4 < l1 then (if l3 = 0 then (if inb l4 512 = true then if (S cM_wasUp l0 (ix l4)) = l2 then f_M_among_wasUp_23 l0 l1 l2 l4 S else f_M_among_wasUp_28 l0 l1 l2 l4 (0 : Int32) S else none) else f_M_among_wasUp_23 l0 l1 l2 l4 S) else exW (if iIsB l3 = true then some (l3) else none)
def f_M_among_wasUp_5 (l0 : Nat) (l1 : Int32) (l2 : Int32) (S : St) (q : Int32 × Int32) : Option (Int32) := iter (f_M_among_wasUp_5_b l0 l1 l2 S) 4096 q
theorem t_M_among_wasUp_5_b (scr : Nat × (Nat → Int32)) (l0 : Nat) (l1 : Int32) (l2 : Int32) (l3 : Int32) (l4 : Int32) (S : St) (T : St) {x : (Int32 × Int32) ⊕ (Int32)} {o : Option iV × SS} (hx : f_M_among_wasUp_5_b l0 l1 l2 S (l3, l4) = some x) (hG : (Sum.elim (fun q => EB scr 0 1 2 cd_M_among (5, [some (vR 85 l0), some (vI l1), some (vI l2), some (vI q.1), some (vI q.2)], []) (T, S) o) (fun x => (some (vI x), (T, S)) = o)) x) : EB scr 0 1 2 cd_M_among (5, [some (vR 85 l0), some (vI l1), some (vI l2), some (vI l3), some (vI l4)], []) (T, S) o := by
  unfold f_M_among_wasUp_5_b at hx
  dsimp only at hx
  refine ev_steps 2 (c' := (8, [some (vR 85 l0), some (vI l1), some (vI l2), some (vI l3), some (vI l4)], [vI l1, vI l4])) (h' := (T, S)) rfl ?_
  refine ev_icmp_ge rfl (fun hc => ?_) (fun hc => ?_)
  · rw [if_pos hc] at hx
    refine ev_steps 1 (c' := (12, [some (vR 85 l0), some (vI l1), some (vI l2), some (vI l3), some (vI l4)], [vI l3])) (h' := (T, S)) rfl ?_
    refine ev_if_ne rfl (fun hc => ?_) (fun hc => ?_)
    · rw [if_pos hc] at hx
      refine ev_steps 2 (c' := (18, [some (vR 85 l0), some (vI l1), some (vI l2), some (vI l3), some (vI l4)], [vI l4, vR 85 l0])) (h' := (T, S)) rfl ?_
      obtain ⟨hg, hx⟩ := ifg hx
      refine ev_iald rfl rfl rfl hg ?_
      refine ev_steps 1 (c' := (20, [some (vR 85 l0), some (vI l1), some (vI l2), some (vI l3), some (vI l4)], [vI l2, vI (S cM_wasUp l0 (ix l4))])) (h' := (T, S)) rfl ?_
      refine ev_icmp_ne rfl (fun hc => ?_) (fun hc => ?_)
      · rw [if_pos hc] at hx
        exact t_M_among_wasUp_23 scr l0 l1 l2 l4 S T _ hx hG
      · rw [if_neg hc] at hx
        refine ev_steps 1 (c' := (28, [some (vR 85 l0), some (vI l1), some (vI l2), some (vI l3), some (vI l4)], [vI (0 : Int32)])) (h' := (T, S)) rfl ?_
        exact t_M_among_wasUp_28 scr l0 l1 l2 l4 (0 : Int32) S T _ hx hG
    · rw [if_neg hc] at hx
      exact t_M_among_wasUp_23 scr l0 l1 l2 l4 S T _ hx hG
  · rw [if_neg hc] at hx
    obtain ⟨x, hy, rfl⟩ := exW_some hx
    replace hx := hy
    simp only [Sum.elim_inr] at hG
    refine ev_steps 1 (c' := (36, [some (vR 85 l0), some (vI l1), some (vI l2), some (vI l3), some (vI l4)], [vI l3])) (h' := (T, S)) rfl ?_
    obtain ⟨hg, hx⟩ := ifg hx
    cases hx
    subst hG
    exact ev_ret rfl (by simp only [iRet, hg])
theorem t_M_among_wasUp_5 (scr : Nat × (Nat → Int32)) (l0 : Nat) (l1 : Int32) (l2 : Int32) (l3 : Int32) (l4 : Int32) (S : St) (T : St) {x : Int32} {o : Option iV × SS} (hx : f_M_among_wasUp_5 l0 l1 l2 S (l3, l4) = some x) (hG : (fun x => (some (vI x), (T, S)) = o) x) : EB scr 0 1 2 cd_M_among (5, [some (vR 85 l0), some (vI l1), some (vI l2), some (vI l3), some (vI l4)], []) (T, S) o := by
  exact iter_ind (P := fun q => EB scr 0 1 2 cd_M_among (5, [some (vR 85 l0), some (vI l1), some (vI l2), some (vI q.1), some (vI q.2)], []) (T, S) o) (G := fun x => (some (vI x), (T, S)) = o) (fun q x hb hP  => t_M_among_wasUp_5_b scr l0 l1 l2 q.1 q.2 S T hb hP) hx hG 
def f_M_among_wasUp (u0 : Nat) (a1 : Int32) (a2 : Int32) (S : St) : Option (Int32) :=
  f_M_among_wasUp_5 u0 a1 a2 S ((0 : Int32), (0 : Int32))
theorem t_M_among_wasUp (scr : Nat × (Nat → Int32)) (u0 : Nat) (a1 : Int32) (a2 : Int32) (S T : St) {x : Int32} {o : Option iV × SS} (hx : f_M_among_wasUp u0 a1 a2 S = some x) (hG : (some (vI x), (T, S)) = o) : E0 scr 1 40 [vR 85 u0, vI a1, vI a2] (T, S) o := by
  refine ev_meth (ls := [some (vR 85 u0), some (vI a1), some (vI a2), none, none]) rfl rfl rfl ?_
  unfold f_M_among_wasUp at hx
  refine ev_steps 4 (c' := (5, [some (vR 85 u0), some (vI a1), some (vI a2), some (vI (0 : Int32)), some (vI (0 : Int32))], [])) (h' := (T, S)) rfl ?_
  exact t_M_among_wasUp_5 scr u0 a1 a2 (0 : Int32) (0 : Int32) S T hx hG
-- M_echo
def f_M_echo_154 (l0 : Nat) (l1 : Int32) (l2 : Int32) (l3 : Int32) (S : St) : Option (St) :=
  if inb (1 : Int32) 2 = true then if (S cM_own l0 (ix (1 : Int32))) = l3 then (if inb (1 : Int32) 2 = true then if (S cM_other l0 (ix (1 : Int32))) = l2 then (if inb (1 : Int32) 2 = true then bd (f_M_post l0 (1 : Int32) l1 (S cM_other l0 (ix (1 : Int32))) (3 : Int32) (0 : Int32) (0 : Int32) S) (fun S240 => some S240) else none) else some S else none) else some S else none
set_option maxRecDepth 100000 in
theorem t_M_echo_154 (scr : Nat × (Nat → Int32)) (l0 : Nat) (l1 : Int32) (l2 : Int32) (l3 : Int32) (S : St) (T : St) (d4 d5 d6 d7 : Option iV) {x : St} {o : Option iV × SS} (hx : f_M_echo_154 l0 l1 l2 l3 S = some x) (hG : (fun x => (none, (T, x)) = o) x) : EB scr 2 1 0 cd_M_echo (154, [some (vR 1 l0), some (vI l1), some (vI l2), some (vI l3), d4, d5, d6, d7], []) (T, S) o := by
  unfold f_M_echo_154 at hx
  try dsimp only at hG
  refine ev_steps 3 (c' := (159, [some (vR 1 l0), some (vI l1), some (vI l2), some (vI l3), _, _, _, _], [vI (1 : Int32), vR 80 l0])) (h' := (T, S)) rfl ?_
  obtain ⟨hg, hx⟩ := ifg hx
  refine ev_iald rfl rfl rfl hg ?_
  refine ev_steps 1 (c' := (161, [some (vR 1 l0), some (vI l1), some (vI l2), some (vI l3), _, _, _, _], [vI l3, vI (S cM_own l0 (ix (1 : Int32)))])) (h' := (T, S)) rfl ?_
  refine ev_icmp_ne rfl (fun hc => ?_) (fun hc => ?_)
  · rw [if_pos hc] at hx
    refine ev_steps 3 (c' := (169, [some (vR 1 l0), some (vI l1), some (vI l2), some (vI l3), _, _, _, _], [vI (1 : Int32), vR 81 l0])) (h' := (T, S)) rfl ?_
    obtain ⟨hg, hx⟩ := ifg hx
    refine ev_iald rfl rfl rfl hg ?_
    refine ev_steps 1 (c' := (171, [some (vR 1 l0), some (vI l1), some (vI l2), some (vI l3), _, _, _, _], [vI l2, vI (S cM_other l0 (ix (1 : Int32)))])) (h' := (T, S)) rfl ?_
    refine ev_icmp_ne rfl (fun hc => ?_) (fun hc => ?_)
    · rw [if_pos hc] at hx
      refine ev_steps 6 (c' := (182, [some (vR 1 l0), some (vI l1), some (vI l2), some (vI l3), _, _, _, _], [vI (1 : Int32), vR 81 l0, vI l1, vI (1 : Int32), vR 1 l0])) (h' := (T, S)) rfl ?_
      obtain ⟨hg, hx⟩ := ifg hx
      refine ev_iald rfl rfl rfl hg ?_
      refine ev_steps 3 (c' := (186, [some (vR 1 l0), some (vI l1), some (vI l2), some (vI l3), _, _, _, _], [vI (0 : Int32), vI (0 : Int32), vI (3 : Int32), vI (S cM_other l0 (ix (1 : Int32))), vI l1, vI (1 : Int32), vR 1 l0])) (h' := (T, S)) rfl ?_
      obtain ⟨S240, hc, hx⟩ := bd_some hx
      refine ev_call rfl rfl rfl rfl rfl rfl rfl rfl rfl ((t_M_post scr l0 (1 : Int32) l1 (S cM_other l0 (ix (1 : Int32))) (3 : Int32) (0 : Int32) (0 : Int32) S T hc rfl).mono (by decide)) ?_
      refine ev_steps 0 (c' := (189, [some (vR 1 l0), some (vI l1), some (vI l2), some (vI l3), _, _, _, _], [])) (h' := (T, S240)) rfl ?_
      cases hx
      subst hG
      exact ev_ret rfl rfl
    · rw [if_neg hc] at hx
      cases hx
      subst hG
      exact ev_ret rfl rfl
  · rw [if_neg hc] at hx
    cases hx
    subst hG
    exact ev_ret rfl rfl
def f_M_echo_69 (l0 : Nat) (l1 : Int32) (l2 : Int32) (l3 : Int32) (l5 : Int64) (s0 : Int32) (S : St) : Option (St) :=
  if s0 = 0 then some S else (if inb (0 : Int32) 8 = true then if (S cM_arrived l0 (ix (0 : Int32))) = l3 then (if (lg_cmp l5 (Int64.ofNat 0)) < 0 then some S else (if 0 < (lg_cmp l5 (Int32.toInt64 (20 : Int32))) then some S else (if inb (1 : Int32) 2 = true then if (S cM_state l0 (ix (1 : Int32))) = 0 then (bd (f_M_among_wasUp l0 (S cM_ups l0 0) l3 S) (fun r241 => if r241 = 0 then (if inb (S cM_ups l0 0) 512 = true then bd (f_M_comeUp l0 (1 : Int32) l3 l2 (up3 (up3 S cM_wasUp l0 (ix (S cM_ups l0 0)) l3) cM_ups l0 0 ((S cM_ups l0 0) + (1 : Int32)))) (fun S244 => f_M_echo_154 l0 l1 l2 l3 S244) else none) else f_M_echo_154 l0 l1 l2 l3 S)) else f_M_echo_154 l0 l1 l2 l3 S else none))) else some S else none)
set_option maxRecDepth 100000 in
theorem t_M_echo_69 (scr : Nat × (Nat → Int32)) (l0 : Nat) (l1 : Int32) (l2 : Int32) (l3 : Int32) (l5 : Int64) (s0 : Int32) (S : St) (T : St) (d4 d6 d7 : Option iV) {x : St} {o : Option iV × SS} (hx : f_M_echo_69 l0 l1 l2 l3 l5 s0 S = some x) (hG : (fun x => (none, (T, x)) = o) x) : EB scr 2 1 0 cd_M_echo (69, [some (vR 1 l0), some (vI l1), some (vI l2), some (vI l3), d4, some (vL l5), d6, d7], [vI s0]) (T, S) o := by
  unfold f_M_echo_69 at hx
  try dsimp only at hG
  refine ev_steps 2 (c' := (73, [some (vR 1 l0), some (vI l1), some (vI l2), some (vI l3), _, some (vL l5), _, some (vI s0)], [vI s0])) (h' := (T, S)) rfl ?_
  refine ev_if_eq rfl (fun hc => ?_) (fun hc => ?_)
  · rw [if_pos hc] at hx
    cases hx
    subst hG
    exact ev_ret rfl rfl
  · rw [if_neg hc] at hx
    refine ev_steps 3 (c' := (81, [some (vR 1 l0), some (vI l1), some (vI l2), some (vI l3), _, some (vL l5), _, some (vI s0)], [vI (0 : Int32), vR 78 l0])) (h' := (T, S)) rfl ?_
    obtain ⟨hg, hx⟩ := ifg hx
    refine ev_iald rfl rfl rfl hg ?_
    refine ev_steps 1 (c' := (83, [some (vR 1 l0), some (vI l1), some (vI l2), some (vI l3), _, some (vL l5), _, some (vI s0)], [vI l3, vI (S cM_arrived l0 (ix (0 : Int32)))])) (h' := (T, S)) rfl ?_
    refine ev_icmp_ne rfl (fun hc => ?_) (fun hc => ?_)
    · rw [if_pos hc] at hx
      refine ev_steps 3 (c' := (90, [some (vR 1 l0), some (vI l1), some (vI l2), some (vI l3), _, some (vL l5), _, some (vI s0)], [vI (lg_cmp l5 (Int64.ofNat 0))])) (h' := (T, S)) rfl ?_
      refine ev_if_lt rfl (fun hc => ?_) (fun hc => ?_)
      · rw [if_pos hc] at hx
        cases hx
        subst hG
        exact ev_ret rfl rfl
      · rw [if_neg hc] at hx
        refine ev_steps 3 (c' := (99, [some (vR 1 l0), some (vI l1), some (vI l2), some (vI l3), _, some (vL l5), _, some (vI s0)], [vI (lg_cmp l5 (Int32.toInt64 (20 : Int32)))])) (h' := (T, S)) rfl ?_
        refine ev_if_le rfl (fun hc => ?_) (fun hc => ?_)
        · rw [if_pos hc] at hx
          cases hx
          subst hG
          exact ev_ret rfl rfl
        · rw [if_neg hc] at hx
          refine ev_steps 3 (c' := (108, [some (vR 1 l0), some (vI l1), some (vI l2), some (vI l3), _, some (vL l5), _, some (vI s0)], [vI (1 : Int32), vR 79 l0])) (h' := (T, S)) rfl ?_
          obtain ⟨hg, hx⟩ := ifg hx
          refine ev_iald rfl rfl rfl hg ?_
          refine ev_steps 0 (c' := (109, [some (vR 1 l0), some (vI l1), some (vI l2), some (vI l3), _, some (vL l5), _, some (vI s0)], [vI (S cM_state l0 (ix (1 : Int32)))])) (h' := (T, S)) rfl ?_
          refine ev_if_ne rfl (fun hc => ?_) (fun hc => ?_)
          · rw [if_pos hc] at hx
            refine ev_steps 5 (c' := (121, [some (vR 1 l0), some (vI l1), some (vI l2), some (vI l3), _, some (vL l5), _, some (vI s0)], [vI l3, vI (S cM_ups l0 0), vR 85 l0])) (h' := (T, S)) rfl ?_
            obtain ⟨r241, hc, hx⟩ := bd_some hx
            refine ev_call rfl rfl rfl rfl rfl rfl rfl rfl rfl ((t_M_among_wasUp scr l0 (S cM_ups l0 0) l3 S T hc rfl).mono (by decide)) ?_
            refine ev_steps 0 (c' := (124, [some (vR 1 l0), some (vI l1), some (vI l2), some (vI l3), _, some (vL l5), _, some (vI s0)], [vI r241])) (h' := (T, S)) rfl ?_
            refine ev_if_ne rfl (fun hc => ?_) (fun hc => ?_)
            · rw [if_pos hc] at hx
              refine ev_steps 5 (c' := (136, [some (vR 1 l0), some (vI l1), some (vI l2), some (vI l3), _, some (vL l5), _, some (vI s0)], [vI l3, vI (S cM_ups l0 0), vR 85 l0])) (h' := (T, S)) rfl ?_
              obtain ⟨hg, hx⟩ := ifg hx
              refine ev_iast rfl rfl hg ?_
              refine ev_steps 10 (c' := (151, [some (vR 1 l0), some (vI l1), some (vI l2), some (vI l3), _, some (vL l5), _, some (vI s0)], [vI l2, vI l3, vI (1 : Int32), vR 1 l0])) (h' := (T, up3 (up3 S cM_wasUp l0 (ix (S cM_ups l0 0)) l3) cM_ups l0 0 ((S cM_ups l0 0) + (1 : Int32)))) rfl ?_
              obtain ⟨S244, hc, hx⟩ := bd_some hx
              refine ev_call rfl rfl rfl rfl rfl rfl rfl rfl rfl ((t_M_comeUp scr l0 (1 : Int32) l3 l2 (up3 (up3 S cM_wasUp l0 (ix (S cM_ups l0 0)) l3) cM_ups l0 0 ((S cM_ups l0 0) + (1 : Int32))) T hc rfl).mono (by decide)) ?_
              refine ev_steps 0 (c' := (154, [some (vR 1 l0), some (vI l1), some (vI l2), some (vI l3), _, some (vL l5), _, some (vI s0)], [])) (h' := (T, S244)) rfl ?_
              exact t_M_echo_154 scr l0 l1 l2 l3 S244 T _ _ _ _ hx hG
            · rw [if_neg hc] at hx
              exact t_M_echo_154 scr l0 l1 l2 l3 S T _ _ _ _ hx hG
          · rw [if_neg hc] at hx
            exact t_M_echo_154 scr l0 l1 l2 l3 S T _ _ _ _ hx hG
    · rw [if_neg hc] at hx
      cases hx
      subst hG
      exact ev_ret rfl rfl
def f_M_echo_68 (l0 : Nat) (l1 : Int32) (l2 : Int32) (l3 : Int32) (l5 : Int64) (S : St) : Option (St) :=
  f_M_echo_69 l0 l1 l2 l3 l5 (0 : Int32) S
set_option maxRecDepth 100000 in
theorem t_M_echo_68 (scr : Nat × (Nat → Int32)) (l0 : Nat) (l1 : Int32) (l2 : Int32) (l3 : Int32) (l5 : Int64) (S : St) (T : St) (d4 d6 d7 : Option iV) {x : St} {o : Option iV × SS} (hx : f_M_echo_68 l0 l1 l2 l3 l5 S = some x) (hG : (fun x => (none, (T, x)) = o) x) : EB scr 2 1 0 cd_M_echo (68, [some (vR 1 l0), some (vI l1), some (vI l2), some (vI l3), d4, some (vL l5), d6, d7], []) (T, S) o := by
  unfold f_M_echo_68 at hx
  try dsimp only at hG
  refine ev_steps 1 (c' := (69, [some (vR 1 l0), some (vI l1), some (vI l2), some (vI l3), _, some (vL l5), _, _], [vI (0 : Int32)])) (h' := (T, S)) rfl ?_
  exact t_M_echo_69 scr l0 l1 l2 l3 l5 (0 : Int32) S T _ _ _ hx hG
def f_M_echo (u : Nat) (a1 : Int32) (S : St) : Option (St) :=
  if inb (3 : Int32) 8 = true then if inb (4 : Int32) 8 = true then if inb (5 : Int32) 8 = true then if inb (6 : Int32) 8 = true then if (S cM_arrived u (ix (6 : Int32))) = (f_M_seal u (S cM_arrived u (ix (3 : Int32))) (S cM_arrived u (ix (4 : Int32))) (S cM_arrived u (ix (5 : Int32))) S) then (if (S cM_arrived u (ix (3 : Int32))) = 0 then f_M_echo_68 u a1 (S cM_arrived u (ix (3 : Int32))) (S cM_arrived u (ix (4 : Int32))) ((Int32.toInt64 (S cM_now u 0)) - (Int32.toInt64 (S cM_arrived u (ix (5 : Int32))))) S else (if (S cM_arrived u (ix (4 : Int32))) = (f_M_tagFor u (S cM_arrived u (ix (3 : Int32))) S) then f_M_echo_69 u a1 (S cM_arrived u (ix (3 : Int32))) (S cM_arrived u (ix (4 : Int32))) ((Int32.toInt64 (S cM_now u 0)) - (Int32.toInt64 (S cM_arrived u (ix (5 : Int32))))) (1 : Int32) S else f_M_echo_68 u a1 (S cM_arrived u (ix (3 : Int32))) (S cM_arrived u (ix (4 : Int32))) ((Int32.toInt64 (S cM_now u 0)) - (Int32.toInt64 (S cM_arrived u (ix (5 : Int32))))) S)) else f_M_echo_68 u a1 (S cM_arrived u (ix (3 : Int32))) (S cM_arrived u (ix (4 : Int32))) ((Int32.toInt64 (S cM_now u 0)) - (Int32.toInt64 (S cM_arrived u (ix (5 : Int32))))) S else none else none else none else none
set_option maxRecDepth 100000 in
theorem t_M_echo (scr : Nat × (Nat → Int32)) (u : Nat) (a1 : Int32) (S T : St) {x : St} {o : Option iV × SS} (hx : f_M_echo u a1 S = some x) (hG : (none, (T, x)) = o) : E0 scr 3 51 [vR 1 u, vI a1] (T, S) o := by
  refine ev_meth (ls := [some (vR 1 u), some (vI a1), none, none, none, none, none, none]) rfl rfl rfl ?_
  unfold f_M_echo at hx
  refine ev_steps 3 (c' := (5, [some (vR 1 u), some (vI a1), none, none, none, none, none, none], [vI (3 : Int32), vR 78 u])) (h' := (T, S)) rfl ?_
  obtain ⟨hg, hx⟩ := ifg hx
  refine ev_iald rfl rfl rfl hg ?_
  refine ev_steps 4 (c' := (12, [some (vR 1 u), some (vI a1), some (vI (S cM_arrived u (ix (3 : Int32)))), none, none, none, none, none], [vI (4 : Int32), vR 78 u])) (h' := (T, S)) rfl ?_
  obtain ⟨hg, hx⟩ := ifg hx
  refine ev_iald rfl rfl rfl hg ?_
  refine ev_steps 4 (c' := (19, [some (vR 1 u), some (vI a1), some (vI (S cM_arrived u (ix (3 : Int32)))), some (vI (S cM_arrived u (ix (4 : Int32)))), none, none, none, none], [vI (5 : Int32), vR 78 u])) (h' := (T, S)) rfl ?_
  obtain ⟨hg, hx⟩ := ifg hx
  refine ev_iald rfl rfl rfl hg ?_
  refine ev_steps 11 (c' := (39, [some (vR 1 u), some (vI a1), some (vI (S cM_arrived u (ix (3 : Int32)))), some (vI (S cM_arrived u (ix (4 : Int32)))), some (vI (S cM_arrived u (ix (5 : Int32)))), some (vL ((Int32.toInt64 (S cM_now u 0)) - (Int32.toInt64 (S cM_arrived u (ix (5 : Int32)))))), none, none], [vI (6 : Int32), vR 78 u])) (h' := (T, S)) rfl ?_
  obtain ⟨hg, hx⟩ := ifg hx
  refine ev_iald rfl rfl rfl hg ?_
  refine ev_steps 4 (c' := (45, [some (vR 1 u), some (vI a1), some (vI (S cM_arrived u (ix (3 : Int32)))), some (vI (S cM_arrived u (ix (4 : Int32)))), some (vI (S cM_arrived u (ix (5 : Int32)))), some (vL ((Int32.toInt64 (S cM_now u 0)) - (Int32.toInt64 (S cM_arrived u (ix (5 : Int32)))))), none, none], [vI (S cM_arrived u (ix (5 : Int32))), vI (S cM_arrived u (ix (4 : Int32))), vI (S cM_arrived u (ix (3 : Int32))), vR 1 u, vI (S cM_arrived u (ix (6 : Int32)))])) (h' := (T, S)) rfl ?_
  refine ev_call rfl rfl rfl rfl rfl rfl rfl rfl rfl ((t_M_seal scr u (S cM_arrived u (ix (3 : Int32))) (S cM_arrived u (ix (4 : Int32))) (S cM_arrived u (ix (5 : Int32))) S T rfl).mono (by decide)) ?_
  refine ev_steps 0 (c' := (48, [some (vR 1 u), some (vI a1), some (vI (S cM_arrived u (ix (3 : Int32)))), some (vI (S cM_arrived u (ix (4 : Int32)))), some (vI (S cM_arrived u (ix (5 : Int32)))), some (vL ((Int32.toInt64 (S cM_now u 0)) - (Int32.toInt64 (S cM_arrived u (ix (5 : Int32)))))), none, none], [vI (f_M_seal u (S cM_arrived u (ix (3 : Int32))) (S cM_arrived u (ix (4 : Int32))) (S cM_arrived u (ix (5 : Int32))) S), vI (S cM_arrived u (ix (6 : Int32)))])) (h' := (T, S)) rfl ?_
  refine ev_icmp_ne rfl (fun hc => ?_) (fun hc => ?_)
  · rw [if_pos hc] at hx
    refine ev_steps 1 (c' := (52, [some (vR 1 u), some (vI a1), some (vI (S cM_arrived u (ix (3 : Int32)))), some (vI (S cM_arrived u (ix (4 : Int32)))), some (vI (S cM_arrived u (ix (5 : Int32)))), some (vL ((Int32.toInt64 (S cM_now u 0)) - (Int32.toInt64 (S cM_arrived u (ix (5 : Int32)))))), none, none], [vI (S cM_arrived u (ix (3 : Int32)))])) (h' := (T, S)) rfl ?_
    refine ev_if_eq rfl (fun hc => ?_) (fun hc => ?_)
    · rw [if_pos hc] at hx
      exact t_M_echo_68 scr u a1 (S cM_arrived u (ix (3 : Int32))) (S cM_arrived u (ix (4 : Int32))) ((Int32.toInt64 (S cM_now u 0)) - (Int32.toInt64 (S cM_arrived u (ix (5 : Int32))))) S T _ _ _ hx hG
    · rw [if_neg hc] at hx
      refine ev_steps 3 (c' := (58, [some (vR 1 u), some (vI a1), some (vI (S cM_arrived u (ix (3 : Int32)))), some (vI (S cM_arrived u (ix (4 : Int32)))), some (vI (S cM_arrived u (ix (5 : Int32)))), some (vL ((Int32.toInt64 (S cM_now u 0)) - (Int32.toInt64 (S cM_arrived u (ix (5 : Int32)))))), none, none], [vI (S cM_arrived u (ix (3 : Int32))), vR 1 u, vI (S cM_arrived u (ix (4 : Int32)))])) (h' := (T, S)) rfl ?_
      refine ev_call rfl rfl rfl rfl rfl rfl rfl rfl rfl ((t_M_tagFor scr u (S cM_arrived u (ix (3 : Int32))) S T rfl).mono (by decide)) ?_
      refine ev_steps 0 (c' := (61, [some (vR 1 u), some (vI a1), some (vI (S cM_arrived u (ix (3 : Int32)))), some (vI (S cM_arrived u (ix (4 : Int32)))), some (vI (S cM_arrived u (ix (5 : Int32)))), some (vL ((Int32.toInt64 (S cM_now u 0)) - (Int32.toInt64 (S cM_arrived u (ix (5 : Int32)))))), none, none], [vI (f_M_tagFor u (S cM_arrived u (ix (3 : Int32))) S), vI (S cM_arrived u (ix (4 : Int32)))])) (h' := (T, S)) rfl ?_
      refine ev_icmp_ne rfl (fun hc => ?_) (fun hc => ?_)
      · rw [if_pos hc] at hx
        refine ev_steps 2 (c' := (69, [some (vR 1 u), some (vI a1), some (vI (S cM_arrived u (ix (3 : Int32)))), some (vI (S cM_arrived u (ix (4 : Int32)))), some (vI (S cM_arrived u (ix (5 : Int32)))), some (vL ((Int32.toInt64 (S cM_now u 0)) - (Int32.toInt64 (S cM_arrived u (ix (5 : Int32)))))), none, none], [vI (1 : Int32)])) (h' := (T, S)) rfl ?_
        exact t_M_echo_69 scr u a1 (S cM_arrived u (ix (3 : Int32))) (S cM_arrived u (ix (4 : Int32))) ((Int32.toInt64 (S cM_now u 0)) - (Int32.toInt64 (S cM_arrived u (ix (5 : Int32))))) (1 : Int32) S T _ _ _ hx hG
      · rw [if_neg hc] at hx
        exact t_M_echo_68 scr u a1 (S cM_arrived u (ix (3 : Int32))) (S cM_arrived u (ix (4 : Int32))) ((Int32.toInt64 (S cM_now u 0)) - (Int32.toInt64 (S cM_arrived u (ix (5 : Int32))))) S T _ _ _ hx hG
  · rw [if_neg hc] at hx
    exact t_M_echo_68 scr u a1 (S cM_arrived u (ix (3 : Int32))) (S cM_arrived u (ix (4 : Int32))) ((Int32.toInt64 (S cM_now u 0)) - (Int32.toInt64 (S cM_arrived u (ix (5 : Int32))))) S T _ _ _ hx hG
-- M_initAck
def f_M_initAck_14_b (l0 : Nat) (l1 : Int32)  : (Int32 × St) → Option ((Int32 × St) ⊕ (St))
  | (l2, S) => if l2 < (4 : Int32) then (if inb ((3 : Int32) + l2) 8 = true then if inb l2 4 = true then some (Sum.inl (l2 + (1 : Int32), up3 S cM_cookie l0 (ix l2) (S cM_arrived l0 (ix ((3 : Int32) + l2))))) else none else none) else exW (if inb (0 : Int32) 2 = true then if inb (0 : Int32) 2 = true then bd (f_M_sendCookie l0 (0 : Int32) l1 (S cM_other l0 (ix (0 : Int32))) (2 : Int32) (0 : Int32) (up3 S cM_state l0 (ix (0 : Int32)) (2 : Int32))) (fun S246 => if inb (0 : Int32) 2 = true then if inb (0 : Int32) 2 = true then some (up3 (up3 S246 cM_tries l0 (ix (0 : Int32)) (1 : Int32)) cM_due l0 (ix (0 : Int32)) ((S246 cM_now l0 0) + (3 : Int32))) else none else none) else none else none)
def f_M_initAck_14 (l0 : Nat) (l1 : Int32)  (q : Int32 × St) : Option (St) := iter (f_M_initAck_14_b l0 l1) 4096 q
theorem t_M_initAck_14_b (scr : Nat × (Nat → Int32)) (l0 : Nat) (l1 : Int32) (l2 : Int32) (S : St) (T : St) {x : (Int32 × St) ⊕ (St)} {o : Option iV × SS} (hx : f_M_initAck_14_b l0 l1 (l2, S) = some x) (hG : (Sum.elim (fun q => EB scr 2 1 0 cd_M_initAck (14, [some (vR 1 l0), some (vI l1), some (vI q.1)], []) (T, q.2) o) (fun x => (none, (T, x)) = o)) x) : EB scr 2 1 0 cd_M_initAck (14, [some (vR 1 l0), some (vI l1), some (vI l2)], []) (T, S) o := by
  unfold f_M_initAck_14_b at hx
  dsimp only at hx
  refine ev_steps 2 (c' := (16, [some (vR 1 l0), some (vI l1), some (vI l2)], [vI (4 : Int32), vI l2])) (h' := (T, S)) rfl ?_
  refine ev_icmp_ge rfl (fun hc => ?_) (fun hc => ?_)
  · rw [if_pos hc] at hx
    refine ev_steps 8 (c' := (31, [some (vR 1 l0), some (vI l1), some (vI l2)], [vI ((3 : Int32) + l2), vR 78 l0, vI l2, vR 83 l0])) (h' := (T, S)) rfl ?_
    obtain ⟨hg, hx⟩ := ifg hx
    refine ev_iald rfl rfl rfl hg ?_
    refine ev_steps 0 (c' := (32, [some (vR 1 l0), some (vI l1), some (vI l2)], [vI (S cM_arrived l0 (ix ((3 : Int32) + l2))), vI l2, vR 83 l0])) (h' := (T, S)) rfl ?_
    obtain ⟨hg, hx⟩ := ifg hx
    refine ev_iast rfl rfl hg ?_
    refine ev_steps 2 (c' := (14, [some (vR 1 l0), some (vI l1), some (vI (l2 + (1 : Int32)))], [])) (h' := (T, up3 S cM_cookie l0 (ix l2) (S cM_arrived l0 (ix ((3 : Int32) + l2))))) rfl ?_
    cases hx
    exact hG
  · rw [if_neg hc] at hx
    obtain ⟨x, hy, rfl⟩ := exW_some hx
    replace hx := hy
    simp only [Sum.elim_inr] at hG
    refine ev_steps 4 (c' := (45, [some (vR 1 l0), some (vI l1), some (vI l2)], [vI (2 : Int32), vI (0 : Int32), vR 79 l0])) (h' := (T, S)) rfl ?_
    obtain ⟨hg, hx⟩ := ifg hx
    refine ev_iast rfl rfl hg ?_
    refine ev_steps 6 (c' := (54, [some (vR 1 l0), some (vI l1), some (vI l2)], [vI (0 : Int32), vR 81 l0, vI l1, vI (0 : Int32), vR 1 l0])) (h' := (T, up3 S cM_state l0 (ix (0 : Int32)) (2 : Int32))) rfl ?_
    obtain ⟨hg, hx⟩ := ifg hx
    refine ev_iald rfl rfl rfl hg ?_
    refine ev_steps 2 (c' := (57, [some (vR 1 l0), some (vI l1), some (vI l2)], [vI (0 : Int32), vI (2 : Int32), vI (S cM_other l0 (ix (0 : Int32))), vI l1, vI (0 : Int32), vR 1 l0])) (h' := (T, up3 S cM_state l0 (ix (0 : Int32)) (2 : Int32))) rfl ?_
    obtain ⟨S246, hc, hx⟩ := bd_some hx
    refine ev_call rfl rfl rfl rfl rfl rfl rfl rfl rfl ((t_M_sendCookie scr l0 (0 : Int32) l1 (S cM_other l0 (ix (0 : Int32))) (2 : Int32) (0 : Int32) (up3 S cM_state l0 (ix (0 : Int32)) (2 : Int32)) T hc rfl).mono (by decide)) ?_
    refine ev_steps 4 (c' := (66, [some (vR 1 l0), some (vI l1), some (vI l2)], [vI (1 : Int32), vI (0 : Int32), vR 86 l0])) (h' := (T, S246)) rfl ?_
    obtain ⟨hg, hx⟩ := ifg hx
    refine ev_iast rfl rfl hg ?_
    refine ev_steps 7 (c' := (78, [some (vR 1 l0), some (vI l1), some (vI l2)], [vI ((S246 cM_now l0 0) + (3 : Int32)), vI (0 : Int32), vR 87 l0])) (h' := (T, up3 S246 cM_tries l0 (ix (0 : Int32)) (1 : Int32))) rfl ?_
    obtain ⟨hg, hx⟩ := ifg hx
    refine ev_iast rfl rfl hg ?_
    refine ev_steps 0 (c' := (79, [some (vR 1 l0), some (vI l1), some (vI l2)], [])) (h' := (T, up3 (up3 S246 cM_tries l0 (ix (0 : Int32)) (1 : Int32)) cM_due l0 (ix (0 : Int32)) ((S246 cM_now l0 0) + (3 : Int32)))) rfl ?_
    cases hx
    subst hG
    exact ev_ret rfl rfl
theorem t_M_initAck_14 (scr : Nat × (Nat → Int32)) (l0 : Nat) (l1 : Int32) (l2 : Int32) (S : St) (T : St) {x : St} {o : Option iV × SS} (hx : f_M_initAck_14 l0 l1 (l2, S) = some x) (hG : (fun x => (none, (T, x)) = o) x) : EB scr 2 1 0 cd_M_initAck (14, [some (vR 1 l0), some (vI l1), some (vI l2)], []) (T, S) o := by
  exact iter_ind (P := fun q => EB scr 2 1 0 cd_M_initAck (14, [some (vR 1 l0), some (vI l1), some (vI q.1)], []) (T, q.2) o) (G := fun x => (none, (T, x)) = o) (fun q x hb hP  => t_M_initAck_14_b scr l0 l1 q.1 q.2 T hb hP) hx hG 
def f_M_initAck (u : Nat) (a1 : Int32) (S : St) : Option (St) :=
  if inb (2 : Int32) 8 = true then if inb (0 : Int32) 2 = true then f_M_initAck_14 u a1 ((0 : Int32), up3 S cM_other u (ix (0 : Int32)) (S cM_arrived u (ix (2 : Int32)))) else none else none
theorem t_M_initAck (scr : Nat × (Nat → Int32)) (u : Nat) (a1 : Int32) (S T : St) {x : St} {o : Option iV × SS} (hx : f_M_initAck u a1 S = some x) (hG : (none, (T, x)) = o) : E0 scr 3 50 [vR 1 u, vI a1] (T, S) o := by
  refine ev_meth (ls := [some (vR 1 u), some (vI a1), none]) rfl rfl rfl ?_
  unfold f_M_initAck at hx
  refine ev_steps 6 (c' := (10, [some (vR 1 u), some (vI a1), none], [vI (2 : Int32), vR 78 u, vI (0 : Int32), vR 81 u])) (h' := (T, S)) rfl ?_
  obtain ⟨hg, hx⟩ := ifg hx
  refine ev_iald rfl rfl rfl hg ?_
  refine ev_steps 0 (c' := (11, [some (vR 1 u), some (vI a1), none], [vI (S cM_arrived u (ix (2 : Int32))), vI (0 : Int32), vR 81 u])) (h' := (T, S)) rfl ?_
  obtain ⟨hg, hx⟩ := ifg hx
  refine ev_iast rfl rfl hg ?_
  refine ev_steps 2 (c' := (14, [some (vR 1 u), some (vI a1), some (vI (0 : Int32))], [])) (h' := (T, up3 S cM_other u (ix (0 : Int32)) (S cM_arrived u (ix (2 : Int32))))) rfl ?_
  exact t_M_initAck_14 scr u a1 (0 : Int32) (up3 S cM_other u (ix (0 : Int32)) (S cM_arrived u (ix (2 : Int32)))) T hx hG
-- M_has
def f_M_has_38 (S : St) : Option (Int32) :=
  some (1 : Int32)
theorem t_M_has_38 (scr : Nat × (Nat → Int32)) (S : St) (T : St) (d0 d1 d2 : Option iV) {x : Int32} {o : Option iV × SS} (hx : f_M_has_38 S = some x) (hG : (fun x => (some (vI x), (T, S)) = o) x) : EB scr 0 1 2 cd_M_has (38, [d0, d1, d2], []) (T, S) o := by
  unfold f_M_has_38 at hx
  try dsimp only at hG
  refine ev_steps 2 (c' := (43, [_, _, _], [vI (1 : Int32)])) (h' := (T, S)) rfl ?_
  cases hx
  subst hG
  exact ev_ret rfl rfl
def f_M_has_42 (S : St) : Option (Int32) :=
  some (0 : Int32)
theorem t_M_has_42 (scr : Nat × (Nat → Int32)) (S : St) (T : St) (d0 d1 d2 : Option iV) {x : Int32} {o : Option iV × SS} (hx : f_M_has_42 S = some x) (hG : (fun x => (some (vI x), (T, S)) = o) x) : EB scr 0 1 2 cd_M_has (42, [d0, d1, d2], []) (T, S) o := by
  unfold f_M_has_42 at hx
  try dsimp only at hG
  refine ev_steps 1 (c' := (43, [_, _, _], [vI (0 : Int32)])) (h' := (T, S)) rfl ?_
  cases hx
  subst hG
  exact ev_ret rfl rfl
def f_M_has (u : Nat) (a1 : Int32) (a2 : Int32) (S : St) : Option (Int32) :=
  if inb a1 2 = true then if (S cM_latest u (ix a1)) < a2 then (if inb a1 2 = true then if ((S cM_latest u (ix a1)) + (16 : Int32)) < a2 then f_M_has_42 S else (if inb (((544 : Int32) * a1) + a2) 1088 = true then if (nz (S cM_had u (ix (((544 : Int32) * a1) + a2)))) = 0 then f_M_has_42 S else f_M_has_38 S else none) else none) else f_M_has_38 S else none
theorem t_M_has (scr : Nat × (Nat → Int32)) (u : Nat) (a1 : Int32) (a2 : Int32) (S T : St) {x : Int32} {o : Option iV × SS} (hx : f_M_has u a1 a2 S = some x) (hG : (some (vI x), (T, S)) = o) : E0 scr 1 58 [vR 1 u, vI a1, vI a2] (T, S) o := by
  refine ev_meth (ls := [some (vR 1 u), some (vI a1), some (vI a2)]) rfl rfl rfl ?_
  unfold f_M_has at hx
  refine ev_steps 4 (c' := (6, [some (vR 1 u), some (vI a1), some (vI a2)], [vI a1, vR 111 u, vI a2])) (h' := (T, S)) rfl ?_
  obtain ⟨hg, hx⟩ := ifg hx
  refine ev_iald rfl rfl rfl hg ?_
  refine ev_steps 0 (c' := (7, [some (vR 1 u), some (vI a1), some (vI a2)], [vI (S cM_latest u (ix a1)), vI a2])) (h' := (T, S)) rfl ?_
  refine ev_icmp_le rfl (fun hc => ?_) (fun hc => ?_)
  · rw [if_pos hc] at hx
    refine ev_steps 4 (c' := (16, [some (vR 1 u), some (vI a1), some (vI a2)], [vI a1, vR 111 u, vI a2])) (h' := (T, S)) rfl ?_
    obtain ⟨hg, hx⟩ := ifg hx
    refine ev_iald rfl rfl rfl hg ?_
    refine ev_steps 2 (c' := (20, [some (vR 1 u), some (vI a1), some (vI a2)], [vI ((S cM_latest u (ix a1)) + (16 : Int32)), vI a2])) (h' := (T, S)) rfl ?_
    refine ev_icmp_gt rfl (fun hc => ?_) (fun hc => ?_)
    · rw [if_pos hc] at hx
      exact t_M_has_42 scr S T _ _ _ hx hG
    · rw [if_neg hc] at hx
      refine ev_steps 7 (c' := (34, [some (vR 1 u), some (vI a1), some (vI a2)], [vI (((544 : Int32) * a1) + a2), vR 112 u])) (h' := (T, S)) rfl ?_
      obtain ⟨hg, hx⟩ := ifg hx
      refine ev_bald rfl rfl hg ?_
      refine ev_steps 0 (c' := (35, [some (vR 1 u), some (vI a1), some (vI a2)], [vI (nz (S cM_had u (ix (((544 : Int32) * a1) + a2))))])) (h' := (T, S)) rfl ?_
      refine ev_if_eq rfl (fun hc => ?_) (fun hc => ?_)
      · rw [if_pos hc] at hx
        exact t_M_has_42 scr S T _ _ _ hx hG
      · rw [if_neg hc] at hx
        exact t_M_has_38 scr S T _ _ _ hx hG
  · rw [if_neg hc] at hx
    exact t_M_has_38 scr S T _ _ _ hx hG
-- M_wholeTo
def f_M_wholeTo_2_b (l0 : Nat) (l1 : Int32) (l2 : Int32) (S : St) : (Int32) → Option ((Int32) ⊕ (Int32))
  | l3 => if inb l1 2 = true then if ((S cM_latest l0 (ix l1)) + (16 : Int32)) < (l2 + l3) then exW (some (0 : Int32)) else (if inb ((((544 : Int32) * l1) + l2) + l3) 1088 = true then if (nz (S cM_held l0 (ix ((((544 : Int32) * l1) + l2) + l3)))) = 0 then exW (some (0 : Int32)) else (if inb ((((544 : Int32) * l1) + l2) + l3) 1088 = true then if ((S cM_hisFlags l0 (ix ((((544 : Int32) * l1) + l2) + l3))) &&& (2 : Int32)) = 0 then some (Sum.inl (l3 + (1 : Int32))) else exW (some (l3 + (1 : Int32))) else none) else none) else none
def f_M_wholeTo_2 (l0 : Nat) (l1 : Int32) (l2 : Int32) (S : St) (q : Int32) : Option (Int32) := iter (f_M_wholeTo_2_b l0 l1 l2 S) 4096 q
theorem t_M_wholeTo_2_b (scr : Nat × (Nat → Int32)) (l0 : Nat) (l1 : Int32) (l2 : Int32) (l3 : Int32) (S : St) (T : St) (d4 : Option iV) {x : (Int32) ⊕ (Int32)} {o : Option iV × SS} (hx : f_M_wholeTo_2_b l0 l1 l2 S l3 = some x) (hG : (Sum.elim (fun q => ∀ d4 : Option iV, EB scr 0 1 1 cd_M_wholeTo (2, [some (vR 1 l0), some (vI l1), some (vI l2), some (vI q), d4], []) (T, S) o) (fun x => (some (vI x), (T, S)) = o)) x) : EB scr 0 1 1 cd_M_wholeTo (2, [some (vR 1 l0), some (vI l1), some (vI l2), some (vI l3), d4], []) (T, S) o := by
  unfold f_M_wholeTo_2_b at hx
  dsimp only at hx
  refine ev_steps 6 (c' := (10, [some (vR 1 l0), some (vI l1), some (vI l2), some (vI l3), _], [vI l1, vR 111 l0, vI (l2 + l3)])) (h' := (T, S)) rfl ?_
  obtain ⟨hg, hx⟩ := ifg hx
  refine ev_iald rfl rfl rfl hg ?_
  refine ev_steps 2 (c' := (14, [some (vR 1 l0), some (vI l1), some (vI l2), some (vI l3), _], [vI ((S cM_latest l0 (ix l1)) + (16 : Int32)), vI (l2 + l3)])) (h' := (T, S)) rfl ?_
  refine ev_icmp_gt rfl (fun hc => ?_) (fun hc => ?_)
  · rw [if_pos hc] at hx
    obtain ⟨x, hy, rfl⟩ := exW_some hx
    replace hx := hy
    simp only [Sum.elim_inr] at hG
    refine ev_steps 1 (c' := (63, [some (vR 1 l0), some (vI l1), some (vI l2), some (vI l3), _], [vI (0 : Int32)])) (h' := (T, S)) rfl ?_
    cases hx
    subst hG
    exact ev_ret rfl rfl
  · rw [if_neg hc] at hx
    refine ev_steps 11 (c' := (34, [some (vR 1 l0), some (vI l1), some (vI l2), some (vI l3), some (vI ((((544 : Int32) * l1) + l2) + l3))], [vI ((((544 : Int32) * l1) + l2) + l3), vR 113 l0])) (h' := (T, S)) rfl ?_
    obtain ⟨hg, hx⟩ := ifg hx
    refine ev_bald rfl rfl hg ?_
    refine ev_steps 0 (c' := (35, [some (vR 1 l0), some (vI l1), some (vI l2), some (vI l3), some (vI ((((544 : Int32) * l1) + l2) + l3))], [vI (nz (S cM_held l0 (ix ((((544 : Int32) * l1) + l2) + l3))))])) (h' := (T, S)) rfl ?_
    refine ev_if_ne rfl (fun hc => ?_) (fun hc => ?_)
    · rw [if_pos hc] at hx
      obtain ⟨x, hy, rfl⟩ := exW_some hx
      replace hx := hy
      simp only [Sum.elim_inr] at hG
      refine ev_steps 1 (c' := (39, [some (vR 1 l0), some (vI l1), some (vI l2), some (vI l3), some (vI ((((544 : Int32) * l1) + l2) + l3))], [vI (0 : Int32)])) (h' := (T, S)) rfl ?_
      cases hx
      subst hG
      exact ev_ret rfl rfl
    · rw [if_neg hc] at hx
      refine ev_steps 3 (c' := (46, [some (vR 1 l0), some (vI l1), some (vI l2), some (vI l3), some (vI ((((544 : Int32) * l1) + l2) + l3))], [vI ((((544 : Int32) * l1) + l2) + l3), vR 117 l0])) (h' := (T, S)) rfl ?_
      obtain ⟨hg, hx⟩ := ifg hx
      refine ev_iald rfl rfl rfl hg ?_
      refine ev_steps 2 (c' := (49, [some (vR 1 l0), some (vI l1), some (vI l2), some (vI l3), some (vI ((((544 : Int32) * l1) + l2) + l3))], [vI ((S cM_hisFlags l0 (ix ((((544 : Int32) * l1) + l2) + l3))) &&& (2 : Int32))])) (h' := (T, S)) rfl ?_
      refine ev_if_eq rfl (fun hc => ?_) (fun hc => ?_)
      · rw [if_pos hc] at hx
        refine ev_steps 2 (c' := (2, [some (vR 1 l0), some (vI l1), some (vI l2), some (vI (l3 + (1 : Int32))), some (vI ((((544 : Int32) * l1) + l2) + l3))], [])) (h' := (T, S)) rfl ?_
        cases hx
        exact hG _
      · rw [if_neg hc] at hx
        obtain ⟨x, hy, rfl⟩ := exW_some hx
        replace hx := hy
        simp only [Sum.elim_inr] at hG
        refine ev_steps 3 (c' := (55, [some (vR 1 l0), some (vI l1), some (vI l2), some (vI l3), some (vI ((((544 : Int32) * l1) + l2) + l3))], [vI (l3 + (1 : Int32))])) (h' := (T, S)) rfl ?_
        cases hx
        subst hG
        exact ev_ret rfl rfl
theorem t_M_wholeTo_2 (scr : Nat × (Nat → Int32)) (l0 : Nat) (l1 : Int32) (l2 : Int32) (l3 : Int32) (S : St) (T : St) (d4 : Option iV) {x : Int32} {o : Option iV × SS} (hx : f_M_wholeTo_2 l0 l1 l2 S l3 = some x) (hG : (fun x => (some (vI x), (T, S)) = o) x) : EB scr 0 1 1 cd_M_wholeTo (2, [some (vR 1 l0), some (vI l1), some (vI l2), some (vI l3), d4], []) (T, S) o := by
  exact iter_ind (P := fun q => ∀ d4 : Option iV, EB scr 0 1 1 cd_M_wholeTo (2, [some (vR 1 l0), some (vI l1), some (vI l2), some (vI q), d4], []) (T, S) o) (G := fun x => (some (vI x), (T, S)) = o) (fun q x hb hP d4 => t_M_wholeTo_2_b scr l0 l1 l2 q S T d4 hb hP) hx hG d4
def f_M_wholeTo (u : Nat) (a1 : Int32) (a2 : Int32) (S : St) : Option (Int32) :=
  f_M_wholeTo_2 u a1 a2 S (0 : Int32)
theorem t_M_wholeTo (scr : Nat × (Nat → Int32)) (u : Nat) (a1 : Int32) (a2 : Int32) (S T : St) {x : Int32} {o : Option iV × SS} (hx : f_M_wholeTo u a1 a2 S = some x) (hG : (some (vI x), (T, S)) = o) : E0 scr 1 61 [vR 1 u, vI a1, vI a2] (T, S) o := by
  refine ev_meth (ls := [some (vR 1 u), some (vI a1), some (vI a2), none, none]) rfl rfl rfl ?_
  unfold f_M_wholeTo at hx
  refine ev_steps 2 (c' := (2, [some (vR 1 u), some (vI a1), some (vI a2), some (vI (0 : Int32)), none], [])) (h' := (T, S)) rfl ?_
  exact t_M_wholeTo_2 scr u a1 a2 (0 : Int32) S T _ hx hG
