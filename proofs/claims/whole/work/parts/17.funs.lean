/-! Methods as functions on the store, printed by a program. -/
-- M_waiting
def f_M_waiting_27 (S : St) : Option (Int32) :=
  some (-1 : Int32)
theorem t_M_waiting_27 (scr : Nat × (Nat → Int32)) (S : St) (T : St) (d0 d1 d2 : Option iV) {x : Int32} {o : Option iV × SS} (hx : f_M_waiting_27 S = some x) (hG : (fun x => (some (vI x), (T, S)) = o) x) : EB scr 1 1 1 cd_M_waiting (27, [d0, d1, d2], []) (T, S) o := by
  unfold f_M_waiting_27 at hx
  try dsimp only at hG
  refine ev_steps 1 (c' := (28, [_, _, _], [vI (-1 : Int32)])) (h' := (T, S)) rfl ?_
  cases hx
  subst hG
  exact ev_ret rfl rfl
def f_M_waiting (u : Nat) (a1 : Int32) (a2 : Int32) (S : St) : Option (Int32) :=
  if (f_M_isTwo a1) = 0 then f_M_waiting_27 S else (if (f_M_isTwo a2) = 0 then f_M_waiting_27 S else (if inb (((2 : Int32) * a1) + a2) 4 = true then some (S cM_rows u (ix (((2 : Int32) * a1) + a2))) else none))
theorem t_M_waiting (scr : Nat × (Nat → Int32)) (u : Nat) (a1 : Int32) (a2 : Int32) (S T : St) {x : Int32} {o : Option iV × SS} (hx : f_M_waiting u a1 a2 S = some x) (hG : (some (vI x), (T, S)) = o) : E0 scr 2 37 [vR 1 u, vI a1, vI a2] (T, S) o := by
  refine ev_meth (ls := [some (vR 1 u), some (vI a1), some (vI a2)]) rfl rfl rfl ?_
  unfold f_M_waiting at hx
  refine ev_steps 1 (c' := (1, [some (vR 1 u), some (vI a1), some (vI a2)], [vI a1])) (h' := (T, S)) rfl ?_
  refine ev_call rfl rfl rfl rfl rfl rfl rfl rfl rfl ((t_M_isTwo scr a1 S T rfl).mono (by decide)) ?_
  refine ev_steps 0 (c' := (4, [some (vR 1 u), some (vI a1), some (vI a2)], [vI (f_M_isTwo a1)])) (h' := (T, S)) rfl ?_
  refine ev_if_eq rfl (fun hc => ?_) (fun hc => ?_)
  · rw [if_pos hc] at hx
    exact t_M_waiting_27 scr S T _ _ _ hx hG
  · rw [if_neg hc] at hx
    refine ev_steps 1 (c' := (8, [some (vR 1 u), some (vI a1), some (vI a2)], [vI a2])) (h' := (T, S)) rfl ?_
    refine ev_call rfl rfl rfl rfl rfl rfl rfl rfl rfl ((t_M_isTwo scr a2 S T rfl).mono (by decide)) ?_
    refine ev_steps 0 (c' := (11, [some (vR 1 u), some (vI a1), some (vI a2)], [vI (f_M_isTwo a2)])) (h' := (T, S)) rfl ?_
    refine ev_if_eq rfl (fun hc => ?_) (fun hc => ?_)
    · rw [if_pos hc] at hx
      exact t_M_waiting_27 scr S T _ _ _ hx hG
    · rw [if_neg hc] at hx
      refine ev_steps 7 (c' := (23, [some (vR 1 u), some (vI a1), some (vI a2)], [vI (((2 : Int32) * a1) + a2), vR 76 u])) (h' := (T, S)) rfl ?_
      obtain ⟨hg, hx⟩ := ifg hx
      refine ev_iald rfl rfl rfl hg ?_
      refine ev_steps 1 (c' := (28, [some (vR 1 u), some (vI a1), some (vI a2)], [vI (S cM_rows u (ix (((2 : Int32) * a1) + a2)))])) (h' := (T, S)) rfl ?_
      cases hx
      subst hG
      exact ev_ret rfl rfl
-- M_sendCookie
def f_M_sendCookie (u : Nat) (a1 : Int32) (a2 : Int32) (a3 : Int32) (a4 : Int32) (a5 : Int32) (S : St) : Option (St) :=
  bd (f_M_full u a1 a2 S) (fun r213 => if inb (0 : Int32) 4 = true then bd (f_M_post u a1 a2 a3 a4 a5 (S cM_cookie u (ix (0 : Int32))) S) (fun S216 => if r213 = 0 then (if inb (1 : Int32) 4 = true then if inb (2 : Int32) 4 = true then if inb (3 : Int32) 4 = true then bd (f_M_more u (((2 : Int32) * a1) + a2) (S216 cM_cookie u (ix (1 : Int32))) (S216 cM_cookie u (ix (2 : Int32))) (S216 cM_cookie u (ix (3 : Int32))) (0 : Int32) S216) (fun S218 => some S218) else none else none else none) else some S216) else none)
theorem t_M_sendCookie (scr : Nat × (Nat → Int32)) (u : Nat) (a1 : Int32) (a2 : Int32) (a3 : Int32) (a4 : Int32) (a5 : Int32) (S T : St) {x : St} {o : Option iV × SS} (hx : f_M_sendCookie u a1 a2 a3 a4 a5 S = some x) (hG : (none, (T, x)) = o) : E0 scr 2 38 [vR 1 u, vI a1, vI a2, vI a3, vI a4, vI a5] (T, S) o := by
  refine ev_meth (ls := [some (vR 1 u), some (vI a1), some (vI a2), some (vI a3), some (vI a4), some (vI a5), none]) rfl rfl rfl ?_
  unfold f_M_sendCookie at hx
  refine ev_steps 3 (c' := (3, [some (vR 1 u), some (vI a1), some (vI a2), some (vI a3), some (vI a4), some (vI a5), none], [vI a2, vI a1, vR 1 u])) (h' := (T, S)) rfl ?_
  obtain ⟨r213, hc, hx⟩ := bd_some hx
  refine ev_call rfl rfl rfl rfl rfl rfl rfl rfl rfl ((t_M_full scr u a1 a2 S T hc rfl).mono (by decide)) ?_
  refine ev_steps 10 (c' := (21, [some (vR 1 u), some (vI a1), some (vI a2), some (vI a3), some (vI a4), some (vI a5), some (vI r213)], [vI (0 : Int32), vR 83 u, vI a5, vI a4, vI a3, vI a2, vI a1, vR 1 u])) (h' := (T, S)) rfl ?_
  obtain ⟨hg, hx⟩ := ifg hx
  refine ev_iald rfl rfl rfl hg ?_
  refine ev_steps 0 (c' := (22, [some (vR 1 u), some (vI a1), some (vI a2), some (vI a3), some (vI a4), some (vI a5), some (vI r213)], [vI (S cM_cookie u (ix (0 : Int32))), vI a5, vI a4, vI a3, vI a2, vI a1, vR 1 u])) (h' := (T, S)) rfl ?_
  obtain ⟨S216, hc, hx⟩ := bd_some hx
  refine ev_call rfl rfl rfl rfl rfl rfl rfl rfl rfl ((t_M_post scr u a1 a2 a3 a4 a5 (S cM_cookie u (ix (0 : Int32))) S T hc rfl).mono (by decide)) ?_
  refine ev_steps 1 (c' := (27, [some (vR 1 u), some (vI a1), some (vI a2), some (vI a3), some (vI a4), some (vI a5), some (vI r213)], [vI r213])) (h' := (T, S216)) rfl ?_
  refine ev_if_ne rfl (fun hc => ?_) (fun hc => ?_)
  · rw [if_pos hc] at hx
    refine ev_steps 9 (c' := (41, [some (vR 1 u), some (vI a1), some (vI a2), some (vI a3), some (vI a4), some (vI a5), some (vI r213)], [vI (1 : Int32), vR 83 u, vI (((2 : Int32) * a1) + a2), vR 1 u])) (h' := (T, S216)) rfl ?_
    obtain ⟨hg, hx⟩ := ifg hx
    refine ev_iald rfl rfl rfl hg ?_
    refine ev_steps 3 (c' := (47, [some (vR 1 u), some (vI a1), some (vI a2), some (vI a3), some (vI a4), some (vI a5), some (vI r213)], [vI (2 : Int32), vR 83 u, vI (S216 cM_cookie u (ix (1 : Int32))), vI (((2 : Int32) * a1) + a2), vR 1 u])) (h' := (T, S216)) rfl ?_
    obtain ⟨hg, hx⟩ := ifg hx
    refine ev_iald rfl rfl rfl hg ?_
    refine ev_steps 3 (c' := (53, [some (vR 1 u), some (vI a1), some (vI a2), some (vI a3), some (vI a4), some (vI a5), some (vI r213)], [vI (3 : Int32), vR 83 u, vI (S216 cM_cookie u (ix (2 : Int32))), vI (S216 cM_cookie u (ix (1 : Int32))), vI (((2 : Int32) * a1) + a2), vR 1 u])) (h' := (T, S216)) rfl ?_
    obtain ⟨hg, hx⟩ := ifg hx
    refine ev_iald rfl rfl rfl hg ?_
    refine ev_steps 1 (c' := (55, [some (vR 1 u), some (vI a1), some (vI a2), some (vI a3), some (vI a4), some (vI a5), some (vI r213)], [vI (0 : Int32), vI (S216 cM_cookie u (ix (3 : Int32))), vI (S216 cM_cookie u (ix (2 : Int32))), vI (S216 cM_cookie u (ix (1 : Int32))), vI (((2 : Int32) * a1) + a2), vR 1 u])) (h' := (T, S216)) rfl ?_
    obtain ⟨S218, hc, hx⟩ := bd_some hx
    refine ev_call rfl rfl rfl rfl rfl rfl rfl rfl rfl ((t_M_more scr u (((2 : Int32) * a1) + a2) (S216 cM_cookie u (ix (1 : Int32))) (S216 cM_cookie u (ix (2 : Int32))) (S216 cM_cookie u (ix (3 : Int32))) (0 : Int32) S216 T hc rfl).mono (by decide)) ?_
    refine ev_steps 0 (c' := (58, [some (vR 1 u), some (vI a1), some (vI a2), some (vI a3), some (vI a4), some (vI a5), some (vI r213)], [])) (h' := (T, S218)) rfl ?_
    cases hx
    subst hG
    exact ev_ret rfl rfl
  · rw [if_neg hc] at hx
    cases hx
    subst hG
    exact ev_ret rfl rfl
-- M_among_opened
def f_M_among_opened_28 (l0 : Nat) (l1 : Int32) (l2 : Int32) (l4 : Int32) (s0 : Int32) (S : St) : Option ((Int32 × Int32) ⊕ (Int32)) :=
  some (Sum.inl (s0, l4 + (1 : Int32)))
theorem t_M_among_opened_28 (scr : Nat × (Nat → Int32)) (l0 : Nat) (l1 : Int32) (l2 : Int32) (l4 : Int32) (s0 : Int32) (S : St) (T : St) (d3 : Option iV) {x : (Int32 × Int32) ⊕ (Int32)} {o : Option iV × SS} (hx : f_M_among_opened_28 l0 l1 l2 l4 s0 S = some x) (hG : (Sum.elim (fun q => EB scr 0 1 2 cd_M_among (5, [some (vR 84 l0), some (vI l1), some (vI l2), some (vI q.1), some (vI q.2)], []) (T, S) o) (fun x => (some (vI x), (T, S)) = o)) x) : EB scr 0 1 2 cd_M_among (28, [some (vR 84 l0), some (vI l1), some (vI l2), d3, some (vI l4)], [vI s0]) (T, S) o := by
  unfold f_M_among_opened_28 at hx
  try dsimp only at hG
  refine ev_steps 3 (c' := (5, [some (vR 84 l0), some (vI l1), some (vI l2), some (vI s0), some (vI (l4 + (1 : Int32)))], [])) (h' := (T, S)) rfl ?_
  cases hx
  exact hG
def f_M_among_opened_23 (l0 : Nat) (l1 : Int32) (l2 : Int32) (l4 : Int32) (S : St) : Option ((Int32 × Int32) ⊕ (Int32)) :=
  f_M_among_opened_28 l0 l1 l2 l4 (1 : Int32) S
theorem t_M_among_opened_23 (scr : Nat × (Nat → Int32)) (l0 : Nat) (l1 : Int32) (l2 : Int32) (l4 : Int32) (S : St) (T : St) (d3 : Option iV) {x : (Int32 × Int32) ⊕ (Int32)} {o : Option iV × SS} (hx : f_M_among_opened_23 l0 l1 l2 l4 S = some x) (hG : (Sum.elim (fun q => EB scr 0 1 2 cd_M_among (5, [some (vR 84 l0), some (vI l1), some (vI l2), some (vI q.1), some (vI q.2)], []) (T, S) o) (fun x => (some (vI x), (T, S)) = o)) x) : EB scr 0 1 2 cd_M_among (23, [some (vR 84 l0), some (vI l1), some (vI l2), d3, some (vI l4)], []) (T, S) o := by
  unfold f_M_among_opened_23 at hx
  try dsimp only at hG
  refine ev_steps 2 (c' := (28, [some (vR 84 l0), some (vI l1), some (vI l2), _, some (vI l4)], [vI (1 : Int32)])) (h' := (T, S)) rfl ?_
  exact t_M_among_opened_28 scr l0 l1 l2 l4 (1 : Int32) S T _ hx hG
def f_M_among_opened_5_b (l0 : Nat) (l1 : Int32) (l2 : Int32) (S : St) : (Int32 × Int32) → Option ((Int32 × Int32) ⊕ (Int32))
  | (l3, l4) => if l4 < l1 then (if l3 = 0 then (if inb l4 512 = true then if (S cM_opened l0 (ix l4)) = l2 then f_M_among_opened_23 l0 l1 l2 l4 S else f_M_among_opened_28 l0 l1 l2 l4 (0 : Int32) S else none) else f_M_among_opened_23 l0 l1 l2 l4 S) else exW (if iIsB l3 = true then some (l3) else none)
def f_M_among_opened_5 (l0 : Nat) (l1 : Int32) (l2 : Int32) (S : St) (q : Int32 × Int32) : Option (Int32) := iter (f_M_among_opened_5_b l0 l1 l2 S) 4096 q
theorem t_M_among_opened_5_b (scr : Nat × (Nat → Int32)) (l0 : Nat) (l1 : Int32) (l2 : Int32) (l3 : Int32) (l4 : Int32) (S : St) (T : St) {x : (Int32 × Int32) ⊕ (Int32)} {o : Option iV × SS} (hx : f_M_among_opened_5_b l0 l1 l2 S (l3, l4) = some x) (hG : (Sum.elim (fun q => EB scr 0 1 2 cd_M_among (5, [some (vR 84 l0), some (vI l1), some (vI l2), some (vI q.1), some (vI q.2)], []) (T, S) o) (fun x => (some (vI x), (T, S)) = o)) x) : EB scr 0 1 2 cd_M_among (5, [some (vR 84 l0), some (vI l1), some (vI l2), some (vI l3), some (vI l4)], []) (T, S) o := by
  unfold f_M_among_opened_5_b at hx
  dsimp only at hx
  refine ev_steps 2 (c' := (8, [some (vR 84 l0), some (vI l1), some (vI l2), some (vI l3), some (vI l4)], [vI l1, vI l4])) (h' := (T, S)) rfl ?_
  refine ev_icmp_ge rfl (fun hc => ?_) (fun hc => ?_)
  · rw [if_pos hc] at hx
    refine ev_steps 1 (c' := (12, [some (vR 84 l0), some (vI l1), some (vI l2), some (vI l3), some (vI l4)], [vI l3])) (h' := (T, S)) rfl ?_
    refine ev_if_ne rfl (fun hc => ?_) (fun hc => ?_)
    · rw [if_pos hc] at hx
      refine ev_steps 2 (c' := (18, [some (vR 84 l0), some (vI l1), some (vI l2), some (vI l3), some (vI l4)], [vI l4, vR 84 l0])) (h' := (T, S)) rfl ?_
      obtain ⟨hg, hx⟩ := ifg hx
      refine ev_iald rfl rfl rfl hg ?_
      refine ev_steps 1 (c' := (20, [some (vR 84 l0), some (vI l1), some (vI l2), some (vI l3), some (vI l4)], [vI l2, vI (S cM_opened l0 (ix l4))])) (h' := (T, S)) rfl ?_
      refine ev_icmp_ne rfl (fun hc => ?_) (fun hc => ?_)
      · rw [if_pos hc] at hx
        exact t_M_among_opened_23 scr l0 l1 l2 l4 S T _ hx hG
      · rw [if_neg hc] at hx
        refine ev_steps 1 (c' := (28, [some (vR 84 l0), some (vI l1), some (vI l2), some (vI l3), some (vI l4)], [vI (0 : Int32)])) (h' := (T, S)) rfl ?_
        exact t_M_among_opened_28 scr l0 l1 l2 l4 (0 : Int32) S T _ hx hG
    · rw [if_neg hc] at hx
      exact t_M_among_opened_23 scr l0 l1 l2 l4 S T _ hx hG
  · rw [if_neg hc] at hx
    obtain ⟨x, hy, rfl⟩ := exW_some hx
    replace hx := hy
    simp only [Sum.elim_inr] at hG
    refine ev_steps 1 (c' := (36, [some (vR 84 l0), some (vI l1), some (vI l2), some (vI l3), some (vI l4)], [vI l3])) (h' := (T, S)) rfl ?_
    obtain ⟨hg, hx⟩ := ifg hx
    cases hx
    subst hG
    exact ev_ret rfl (by simp only [iRet, hg])
theorem t_M_among_opened_5 (scr : Nat × (Nat → Int32)) (l0 : Nat) (l1 : Int32) (l2 : Int32) (l3 : Int32) (l4 : Int32) (S : St) (T : St) {x : Int32} {o : Option iV × SS} (hx : f_M_among_opened_5 l0 l1 l2 S (l3, l4) = some x) (hG : (fun x => (some (vI x), (T, S)) = o) x) : EB scr 0 1 2 cd_M_among (5, [some (vR 84 l0), some (vI l1), some (vI l2), some (vI l3), some (vI l4)], []) (T, S) o := by
  exact iter_ind (P := fun q => EB scr 0 1 2 cd_M_among (5, [some (vR 84 l0), some (vI l1), some (vI l2), some (vI q.1), some (vI q.2)], []) (T, S) o) (G := fun x => (some (vI x), (T, S)) = o) (fun q x hb hP  => t_M_among_opened_5_b scr l0 l1 l2 q.1 q.2 S T hb hP) hx hG 
def f_M_among_opened (u0 : Nat) (a1 : Int32) (a2 : Int32) (S : St) : Option (Int32) :=
  f_M_among_opened_5 u0 a1 a2 S ((0 : Int32), (0 : Int32))
theorem t_M_among_opened (scr : Nat × (Nat → Int32)) (u0 : Nat) (a1 : Int32) (a2 : Int32) (S T : St) {x : Int32} {o : Option iV × SS} (hx : f_M_among_opened u0 a1 a2 S = some x) (hG : (some (vI x), (T, S)) = o) : E0 scr 1 40 [vR 84 u0, vI a1, vI a2] (T, S) o := by
  refine ev_meth (ls := [some (vR 84 u0), some (vI a1), some (vI a2), none, none]) rfl rfl rfl ?_
  unfold f_M_among_opened at hx
  refine ev_steps 4 (c' := (5, [some (vR 84 u0), some (vI a1), some (vI a2), some (vI (0 : Int32)), some (vI (0 : Int32))], [])) (h' := (T, S)) rfl ?_
  exact t_M_among_opened_5 scr u0 a1 a2 (0 : Int32) (0 : Int32) S T hx hG
-- M_open
def f_M_open_28 (S : St) : Option (Int32 × St) :=
  some ((0 : Int32), S)
theorem t_M_open_28 (scr : Nat × (Nat → Int32)) (S : St) (T : St) (d0 d1 : Option iV) {x : Int32 × St} {o : Option iV × SS} (hx : f_M_open_28 S = some x) (hG : (fun x => (some (vI x.1), (T, x.2)) = o) x) : EB scr 1 1 2 cd_M_open (28, [d0, d1], []) (T, S) o := by
  unfold f_M_open_28 at hx
  try dsimp only at hG
  refine ev_steps 1 (c' := (29, [_, _], [vI (0 : Int32)])) (h' := (T, S)) rfl ?_
  cases hx
  subst hG
  exact ev_ret rfl rfl
def f_M_open (u : Nat) (a1 : Int32) (S : St) : Option (Int32 × St) :=
  if inb (0 : Int32) 2 = true then if (S cM_state u (ix (0 : Int32))) = 0 then (if a1 = 0 then f_M_open_28 S else (bd (f_M_among_opened u (S cM_opens u 0) a1 S) (fun r219 => if r219 = 0 then (if inb (S cM_opens u 0) 512 = true then if inb (0 : Int32) 2 = true then if inb (0 : Int32) 2 = true then bd (f_M_post u (0 : Int32) (0 : Int32) (0 : Int32) (0 : Int32) a1 (0 : Int32) (up3 (up3 (up3 (up3 S cM_opened u (ix (S cM_opens u 0)) a1) cM_opens u 0 ((S cM_opens u 0) + (1 : Int32))) cM_state u (ix (0 : Int32)) (1 : Int32)) cM_own u (ix (0 : Int32)) a1)) (fun S222 => if inb (0 : Int32) 2 = true then if inb (0 : Int32) 2 = true then some ((1 : Int32), up3 (up3 S222 cM_tries u (ix (0 : Int32)) (1 : Int32)) cM_due u (ix (0 : Int32)) ((S222 cM_now u 0) + (3 : Int32))) else none else none) else none else none else none) else f_M_open_28 S))) else f_M_open_28 S else none
theorem t_M_open (scr : Nat × (Nat → Int32)) (u : Nat) (a1 : Int32) (S T : St) {x : Int32 × St} {o : Option iV × SS} (hx : f_M_open u a1 S = some x) (hG : (some (vI x.1), (T, x.2)) = o) : E0 scr 2 39 [vR 1 u, vI a1] (T, S) o := by
  refine ev_meth (ls := [some (vR 1 u), some (vI a1)]) rfl rfl rfl ?_
  unfold f_M_open at hx
  refine ev_steps 3 (c' := (5, [some (vR 1 u), some (vI a1)], [vI (0 : Int32), vR 79 u])) (h' := (T, S)) rfl ?_
  obtain ⟨hg, hx⟩ := ifg hx
  refine ev_iald rfl rfl rfl hg ?_
  refine ev_steps 0 (c' := (6, [some (vR 1 u), some (vI a1)], [vI (S cM_state u (ix (0 : Int32)))])) (h' := (T, S)) rfl ?_
  refine ev_if_ne rfl (fun hc => ?_) (fun hc => ?_)
  · rw [if_pos hc] at hx
    refine ev_steps 1 (c' := (10, [some (vR 1 u), some (vI a1)], [vI a1])) (h' := (T, S)) rfl ?_
    refine ev_if_eq rfl (fun hc => ?_) (fun hc => ?_)
    · rw [if_pos hc] at hx
      exact t_M_open_28 scr S T _ _ hx hG
    · rw [if_neg hc] at hx
      refine ev_steps 5 (c' := (22, [some (vR 1 u), some (vI a1)], [vI a1, vI (S cM_opens u 0), vR 84 u])) (h' := (T, S)) rfl ?_
      obtain ⟨r219, hc, hx⟩ := bd_some hx
      refine ev_call rfl rfl rfl rfl rfl rfl rfl rfl rfl ((t_M_among_opened scr u (S cM_opens u 0) a1 S T hc rfl).mono (by decide)) ?_
      refine ev_steps 0 (c' := (25, [some (vR 1 u), some (vI a1)], [vI r219])) (h' := (T, S)) rfl ?_
      refine ev_if_eq rfl (fun hc => ?_) (fun hc => ?_)
      · rw [if_pos hc] at hx
        refine ev_steps 5 (c' := (39, [some (vR 1 u), some (vI a1)], [vI a1, vI (S cM_opens u 0), vR 84 u])) (h' := (T, S)) rfl ?_
        obtain ⟨hg, hx⟩ := ifg hx
        refine ev_iast rfl rfl hg ?_
        refine ev_steps 10 (c' := (56, [some (vR 1 u), some (vI a1)], [vI (1 : Int32), vI (0 : Int32), vR 79 u])) (h' := (T, up3 (up3 S cM_opened u (ix (S cM_opens u 0)) a1) cM_opens u 0 ((S cM_opens u 0) + (1 : Int32)))) rfl ?_
        obtain ⟨hg, hx⟩ := ifg hx
        refine ev_iast rfl rfl hg ?_
        refine ev_steps 4 (c' := (63, [some (vR 1 u), some (vI a1)], [vI a1, vI (0 : Int32), vR 80 u])) (h' := (T, up3 (up3 (up3 S cM_opened u (ix (S cM_opens u 0)) a1) cM_opens u 0 ((S cM_opens u 0) + (1 : Int32))) cM_state u (ix (0 : Int32)) (1 : Int32))) rfl ?_
        obtain ⟨hg, hx⟩ := ifg hx
        refine ev_iast rfl rfl hg ?_
        refine ev_steps 7 (c' := (71, [some (vR 1 u), some (vI a1)], [vI (0 : Int32), vI a1, vI (0 : Int32), vI (0 : Int32), vI (0 : Int32), vI (0 : Int32), vR 1 u])) (h' := (T, up3 (up3 (up3 (up3 S cM_opened u (ix (S cM_opens u 0)) a1) cM_opens u 0 ((S cM_opens u 0) + (1 : Int32))) cM_state u (ix (0 : Int32)) (1 : Int32)) cM_own u (ix (0 : Int32)) a1)) rfl ?_
        obtain ⟨S222, hc, hx⟩ := bd_some hx
        refine ev_call rfl rfl rfl rfl rfl rfl rfl rfl rfl ((t_M_post scr u (0 : Int32) (0 : Int32) (0 : Int32) (0 : Int32) a1 (0 : Int32) (up3 (up3 (up3 (up3 S cM_opened u (ix (S cM_opens u 0)) a1) cM_opens u 0 ((S cM_opens u 0) + (1 : Int32))) cM_state u (ix (0 : Int32)) (1 : Int32)) cM_own u (ix (0 : Int32)) a1) T hc rfl).mono (by decide)) ?_
        refine ev_steps 4 (c' := (80, [some (vR 1 u), some (vI a1)], [vI (1 : Int32), vI (0 : Int32), vR 86 u])) (h' := (T, S222)) rfl ?_
        obtain ⟨hg, hx⟩ := ifg hx
        refine ev_iast rfl rfl hg ?_
        refine ev_steps 7 (c' := (92, [some (vR 1 u), some (vI a1)], [vI ((S222 cM_now u 0) + (3 : Int32)), vI (0 : Int32), vR 87 u])) (h' := (T, up3 S222 cM_tries u (ix (0 : Int32)) (1 : Int32))) rfl ?_
        obtain ⟨hg, hx⟩ := ifg hx
        refine ev_iast rfl rfl hg ?_
        refine ev_steps 1 (c' := (94, [some (vR 1 u), some (vI a1)], [vI (1 : Int32)])) (h' := (T, up3 (up3 S222 cM_tries u (ix (0 : Int32)) (1 : Int32)) cM_due u (ix (0 : Int32)) ((S222 cM_now u 0) + (3 : Int32)))) rfl ?_
        cases hx
        subst hG
        exact ev_ret rfl rfl
      · rw [if_neg hc] at hx
        exact t_M_open_28 scr S T _ _ hx hG
  · rw [if_neg hc] at hx
    exact t_M_open_28 scr S T _ _ hx hG
-- M_empty
def f_M_empty_242_b (l0 : Nat) (l1 : Int32) (l2 : Int32)  : (Int32 × St) → Option ((Int32 × St) ⊕ ((Int32 × St) ⊕ (St)))
  | (l3, S) => if inb l2 6 = true then if l3 < (S cM_readies l0 (ix l2)) then (if inb l1 2 = true then if inb (((512 : Int32) * l2) + l3) 3072 = true then if inb l1 2 = true then some (Sum.inl (l3 + (1 : Int32), up3 S cM_kept l0 (ix l1) ((S cM_kept l0 (ix l1)) + (S cM_words l0 (ix (((512 : Int32) * l2) + l3)))))) else none else none else none) else exW (some (Sum.inl (l2 + (1 : Int32), S))) else none
def f_M_empty_242 (l0 : Nat) (l1 : Int32) (l2 : Int32)  (q : Int32 × St) : Option ((Int32 × St) ⊕ (St)) := iter (f_M_empty_242_b l0 l1 l2) 4096 q
set_option maxRecDepth 100000 in
theorem t_M_empty_242_b (scr : Nat × (Nat → Int32)) (l0 : Nat) (l1 : Int32) (l2 : Int32) (l3 : Int32) (S : St) (T : St) {x : (Int32 × St) ⊕ ((Int32 × St) ⊕ (St))} {o : Option iV × SS} (hx : f_M_empty_242_b l0 l1 l2 (l3, S) = some x) (hG : (Sum.elim (fun q => EB scr 0 1 0 cd_M_empty (242, [some (vR 1 l0), some (vI l1), some (vI l2), some (vI q.1)], []) (T, q.2) o) (Sum.elim (fun q => ∀ d3 : Option iV, EB scr 0 1 0 cd_M_empty (226, [some (vR 1 l0), some (vI l1), some (vI q.1), d3], []) (T, q.2) o) (fun x => (none, (T, x)) = o))) x) : EB scr 0 1 0 cd_M_empty (242, [some (vR 1 l0), some (vI l1), some (vI l2), some (vI l3)], []) (T, S) o := by
  unfold f_M_empty_242_b at hx
  dsimp only at hx
  refine ev_steps 4 (c' := (248, [some (vR 1 l0), some (vI l1), some (vI l2), some (vI l3)], [vI l2, vR 120 l0, vI l3])) (h' := (T, S)) rfl ?_
  obtain ⟨hg, hx⟩ := ifg hx
  refine ev_iald rfl rfl rfl hg ?_
  refine ev_steps 0 (c' := (249, [some (vR 1 l0), some (vI l1), some (vI l2), some (vI l3)], [vI (S cM_readies l0 (ix l2)), vI l3])) (h' := (T, S)) rfl ?_
  refine ev_icmp_ge rfl (fun hc => ?_) (fun hc => ?_)
  · rw [if_pos hc] at hx
    refine ev_steps 4 (c' := (258, [some (vR 1 l0), some (vI l1), some (vI l2), some (vI l3)], [vI l1, vR 119 l0, vI l1, vR 119 l0])) (h' := (T, S)) rfl ?_
    obtain ⟨hg, hx⟩ := ifg hx
    refine ev_iald rfl rfl rfl hg ?_
    refine ev_steps 7 (c' := (270, [some (vR 1 l0), some (vI l1), some (vI l2), some (vI l3)], [vI (((512 : Int32) * l2) + l3), vR 123 l0, vI (S cM_kept l0 (ix l1)), vI l1, vR 119 l0])) (h' := (T, S)) rfl ?_
    obtain ⟨hg, hx⟩ := ifg hx
    refine ev_iald rfl rfl rfl hg ?_
    refine ev_steps 1 (c' := (272, [some (vR 1 l0), some (vI l1), some (vI l2), some (vI l3)], [vI ((S cM_kept l0 (ix l1)) + (S cM_words l0 (ix (((512 : Int32) * l2) + l3)))), vI l1, vR 119 l0])) (h' := (T, S)) rfl ?_
    obtain ⟨hg, hx⟩ := ifg hx
    refine ev_iast rfl rfl hg ?_
    refine ev_steps 2 (c' := (242, [some (vR 1 l0), some (vI l1), some (vI l2), some (vI (l3 + (1 : Int32)))], [])) (h' := (T, up3 S cM_kept l0 (ix l1) ((S cM_kept l0 (ix l1)) + (S cM_words l0 (ix (((512 : Int32) * l2) + l3)))))) rfl ?_
    cases hx
    exact hG
  · rw [if_neg hc] at hx
    obtain ⟨x, hy, rfl⟩ := exW_some hx
    replace hx := hy
    simp only [Sum.elim_inr] at hG
    refine ev_steps 2 (c' := (226, [some (vR 1 l0), some (vI l1), some (vI (l2 + (1 : Int32))), some (vI l3)], [])) (h' := (T, S)) rfl ?_
    cases hx
    exact hG _
set_option maxRecDepth 100000 in
theorem t_M_empty_242 (scr : Nat × (Nat → Int32)) (l0 : Nat) (l1 : Int32) (l2 : Int32) (l3 : Int32) (S : St) (T : St) {x : (Int32 × St) ⊕ (St)} {o : Option iV × SS} (hx : f_M_empty_242 l0 l1 l2 (l3, S) = some x) (hG : (Sum.elim (fun q => ∀ d3 : Option iV, EB scr 0 1 0 cd_M_empty (226, [some (vR 1 l0), some (vI l1), some (vI q.1), d3], []) (T, q.2) o) (fun x => (none, (T, x)) = o)) x) : EB scr 0 1 0 cd_M_empty (242, [some (vR 1 l0), some (vI l1), some (vI l2), some (vI l3)], []) (T, S) o := by
  exact iter_ind (P := fun q => EB scr 0 1 0 cd_M_empty (242, [some (vR 1 l0), some (vI l1), some (vI l2), some (vI q.1)], []) (T, q.2) o) (G := Sum.elim (fun q => ∀ d3 : Option iV, EB scr 0 1 0 cd_M_empty (226, [some (vR 1 l0), some (vI l1), some (vI q.1), d3], []) (T, q.2) o) (fun x => (none, (T, x)) = o)) (fun q x hb hP  => t_M_empty_242_b scr l0 l1 l2 q.1 q.2 T hb hP) hx hG 
def f_M_empty_226_b (l0 : Nat) (l1 : Int32)  : (Int32 × St) → Option ((Int32 × St) ⊕ (St))
  | (l2, S) => if l2 < (((3 : Int32) * l1) + (3 : Int32)) then (if inb l2 6 = true then f_M_empty_242 l0 l1 l2 (S cM_firstReady l0 (ix l2), S) else none) else exW (some S)
def f_M_empty_226 (l0 : Nat) (l1 : Int32)  (q : Int32 × St) : Option (St) := iter (f_M_empty_226_b l0 l1) 4096 q
set_option maxRecDepth 100000 in
theorem t_M_empty_226_b (scr : Nat × (Nat → Int32)) (l0 : Nat) (l1 : Int32) (l2 : Int32) (S : St) (T : St) (d3 : Option iV) {x : (Int32 × St) ⊕ (St)} {o : Option iV × SS} (hx : f_M_empty_226_b l0 l1 (l2, S) = some x) (hG : (Sum.elim (fun q => ∀ d3 : Option iV, EB scr 0 1 0 cd_M_empty (226, [some (vR 1 l0), some (vI l1), some (vI q.1), d3], []) (T, q.2) o) (fun x => (none, (T, x)) = o)) x) : EB scr 0 1 0 cd_M_empty (226, [some (vR 1 l0), some (vI l1), some (vI l2), d3], []) (T, S) o := by
  unfold f_M_empty_226_b at hx
  dsimp only at hx
  refine ev_steps 6 (c' := (232, [some (vR 1 l0), some (vI l1), some (vI l2), _], [vI (((3 : Int32) * l1) + (3 : Int32)), vI l2])) (h' := (T, S)) rfl ?_
  refine ev_icmp_ge rfl (fun hc => ?_) (fun hc => ?_)
  · rw [if_pos hc] at hx
    refine ev_steps 3 (c' := (240, [some (vR 1 l0), some (vI l1), some (vI l2), _], [vI l2, vR 121 l0])) (h' := (T, S)) rfl ?_
    obtain ⟨hg, hx⟩ := ifg hx
    refine ev_iald rfl rfl rfl hg ?_
    refine ev_steps 1 (c' := (242, [some (vR 1 l0), some (vI l1), some (vI l2), some (vI (S cM_firstReady l0 (ix l2)))], [])) (h' := (T, S)) rfl ?_
    exact t_M_empty_242 scr l0 l1 l2 (S cM_firstReady l0 (ix l2)) S T hx hG
  · rw [if_neg hc] at hx
    obtain ⟨x, hy, rfl⟩ := exW_some hx
    replace hx := hy
    simp only [Sum.elim_inr] at hG
    cases hx
    subst hG
    exact ev_ret rfl rfl
set_option maxRecDepth 100000 in
theorem t_M_empty_226 (scr : Nat × (Nat → Int32)) (l0 : Nat) (l1 : Int32) (l2 : Int32) (S : St) (T : St) (d3 : Option iV) {x : St} {o : Option iV × SS} (hx : f_M_empty_226 l0 l1 (l2, S) = some x) (hG : (fun x => (none, (T, x)) = o) x) : EB scr 0 1 0 cd_M_empty (226, [some (vR 1 l0), some (vI l1), some (vI l2), d3], []) (T, S) o := by
  exact iter_ind (P := fun q => ∀ d3 : Option iV, EB scr 0 1 0 cd_M_empty (226, [some (vR 1 l0), some (vI l1), some (vI q.1), d3], []) (T, q.2) o) (G := fun x => (none, (T, x)) = o) (fun q x hb hP d3 => t_M_empty_226_b scr l0 l1 q.1 q.2 T d3 hb hP) hx hG d3
def f_M_empty_134_b (l0 : Nat) (l1 : Int32)  : (Int32 × St) → Option ((Int32 × St) ⊕ (St))
  | (l2, S) => if l2 < (((2 : Int32) * l1) + (2 : Int32)) then (if inb l2 4 = true then if inb l2 4 = true then if inb l2 4 = true then if inb l2 4 = true then if inb l2 4 = true then if inb l2 4 = true then some (Sum.inl (l2 + (1 : Int32), up3 (up3 (up3 (up3 (up3 (up3 S cM_active l0 (ix l2) (1 : Int32)) cM_rate l0 (ix l2) (2 : Int32)) cM_wait l0 (ix l2) (3 : Int32)) cM_errors l0 (ix l2) (0 : Int32)) cM_runs l0 (ix l2) (0 : Int32)) cM_beating l0 (ix l2) (0 : Int32))) else none else none else none else none else none else none) else exW (if inb l1 2 = true then if inb l1 2 = true then if inb l1 2 = true then if inb l1 2 = true then f_M_empty_226 l0 l1 ((3 : Int32) * l1, up3 (up3 (up3 (up3 S cM_primary l0 (ix l1) (0 : Int32)) cM_allErrors l0 (ix l1) (0 : Int32)) cM_window l0 (ix l1) (S cM_room l0 0)) cM_kept l0 (ix l1) (0 : Int32)) else none else none else none else none)
def f_M_empty_134 (l0 : Nat) (l1 : Int32)  (q : Int32 × St) : Option (St) := iter (f_M_empty_134_b l0 l1) 4096 q
set_option maxRecDepth 100000 in
theorem t_M_empty_134_b (scr : Nat × (Nat → Int32)) (l0 : Nat) (l1 : Int32) (l2 : Int32) (S : St) (T : St) (d3 : Option iV) {x : (Int32 × St) ⊕ (St)} {o : Option iV × SS} (hx : f_M_empty_134_b l0 l1 (l2, S) = some x) (hG : (Sum.elim (fun q => ∀ d3 : Option iV, EB scr 0 1 0 cd_M_empty (134, [some (vR 1 l0), some (vI l1), some (vI q.1), d3], []) (T, q.2) o) (fun x => (none, (T, x)) = o)) x) : EB scr 0 1 0 cd_M_empty (134, [some (vR 1 l0), some (vI l1), some (vI l2), d3], []) (T, S) o := by
  unfold f_M_empty_134_b at hx
  dsimp only at hx
  refine ev_steps 6 (c' := (140, [some (vR 1 l0), some (vI l1), some (vI l2), _], [vI (((2 : Int32) * l1) + (2 : Int32)), vI l2])) (h' := (T, S)) rfl ?_
  refine ev_icmp_ge rfl (fun hc => ?_) (fun hc => ?_)
  · rw [if_pos hc] at hx
    refine ev_steps 4 (c' := (149, [some (vR 1 l0), some (vI l1), some (vI l2), _], [vI (1 : Int32), vI l2, vR 91 l0])) (h' := (T, S)) rfl ?_
    obtain ⟨hg, hx⟩ := ifg hx
    refine ev_bast rfl rfl hg rfl ?_
    refine ev_steps 4 (c' := (156, [some (vR 1 l0), some (vI l1), some (vI l2), _], [vI (2 : Int32), vI l2, vR 92 l0])) (h' := (T, up3 S cM_active l0 (ix l2) (1 : Int32))) rfl ?_
    obtain ⟨hg, hx⟩ := ifg hx
    refine ev_iast rfl rfl hg ?_
    refine ev_steps 4 (c' := (163, [some (vR 1 l0), some (vI l1), some (vI l2), _], [vI (3 : Int32), vI l2, vR 93 l0])) (h' := (T, up3 (up3 S cM_active l0 (ix l2) (1 : Int32)) cM_rate l0 (ix l2) (2 : Int32))) rfl ?_
    obtain ⟨hg, hx⟩ := ifg hx
    refine ev_iast rfl rfl hg ?_
    refine ev_steps 4 (c' := (170, [some (vR 1 l0), some (vI l1), some (vI l2), _], [vI (0 : Int32), vI l2, vR 94 l0])) (h' := (T, up3 (up3 (up3 S cM_active l0 (ix l2) (1 : Int32)) cM_rate l0 (ix l2) (2 : Int32)) cM_wait l0 (ix l2) (3 : Int32))) rfl ?_
    obtain ⟨hg, hx⟩ := ifg hx
    refine ev_iast rfl rfl hg ?_
    refine ev_steps 4 (c' := (177, [some (vR 1 l0), some (vI l1), some (vI l2), _], [vI (0 : Int32), vI l2, vR 95 l0])) (h' := (T, up3 (up3 (up3 (up3 S cM_active l0 (ix l2) (1 : Int32)) cM_rate l0 (ix l2) (2 : Int32)) cM_wait l0 (ix l2) (3 : Int32)) cM_errors l0 (ix l2) (0 : Int32))) rfl ?_
    obtain ⟨hg, hx⟩ := ifg hx
    refine ev_bast rfl rfl hg rfl ?_
    refine ev_steps 4 (c' := (184, [some (vR 1 l0), some (vI l1), some (vI l2), _], [vI (0 : Int32), vI l2, vR 97 l0])) (h' := (T, up3 (up3 (up3 (up3 (up3 S cM_active l0 (ix l2) (1 : Int32)) cM_rate l0 (ix l2) (2 : Int32)) cM_wait l0 (ix l2) (3 : Int32)) cM_errors l0 (ix l2) (0 : Int32)) cM_runs l0 (ix l2) (0 : Int32))) rfl ?_
    obtain ⟨hg, hx⟩ := ifg hx
    refine ev_bast rfl rfl hg rfl ?_
    refine ev_steps 2 (c' := (134, [some (vR 1 l0), some (vI l1), some (vI (l2 + (1 : Int32))), _], [])) (h' := (T, up3 (up3 (up3 (up3 (up3 (up3 S cM_active l0 (ix l2) (1 : Int32)) cM_rate l0 (ix l2) (2 : Int32)) cM_wait l0 (ix l2) (3 : Int32)) cM_errors l0 (ix l2) (0 : Int32)) cM_runs l0 (ix l2) (0 : Int32)) cM_beating l0 (ix l2) (0 : Int32))) rfl ?_
    cases hx
    exact hG _
  · rw [if_neg hc] at hx
    obtain ⟨x, hy, rfl⟩ := exW_some hx
    replace hx := hy
    simp only [Sum.elim_inr] at hG
    refine ev_steps 4 (c' := (197, [some (vR 1 l0), some (vI l1), some (vI l2), _], [vI (0 : Int32), vI l1, vR 88 l0])) (h' := (T, S)) rfl ?_
    obtain ⟨hg, hx⟩ := ifg hx
    refine ev_iast rfl rfl hg ?_
    refine ev_steps 4 (c' := (204, [some (vR 1 l0), some (vI l1), some (vI l2), _], [vI (0 : Int32), vI l1, vR 89 l0])) (h' := (T, up3 S cM_primary l0 (ix l1) (0 : Int32))) rfl ?_
    obtain ⟨hg, hx⟩ := ifg hx
    refine ev_iast rfl rfl hg ?_
    refine ev_steps 5 (c' := (214, [some (vR 1 l0), some (vI l1), some (vI l2), _], [vI (S cM_room l0 0), vI l1, vR 90 l0])) (h' := (T, up3 (up3 S cM_primary l0 (ix l1) (0 : Int32)) cM_allErrors l0 (ix l1) (0 : Int32))) rfl ?_
    obtain ⟨hg, hx⟩ := ifg hx
    refine ev_iast rfl rfl hg ?_
    refine ev_steps 4 (c' := (221, [some (vR 1 l0), some (vI l1), some (vI l2), _], [vI (0 : Int32), vI l1, vR 119 l0])) (h' := (T, up3 (up3 (up3 S cM_primary l0 (ix l1) (0 : Int32)) cM_allErrors l0 (ix l1) (0 : Int32)) cM_window l0 (ix l1) (S cM_room l0 0))) rfl ?_
    obtain ⟨hg, hx⟩ := ifg hx
    refine ev_iast rfl rfl hg ?_
    refine ev_steps 4 (c' := (226, [some (vR 1 l0), some (vI l1), some (vI ((3 : Int32) * l1)), _], [])) (h' := (T, up3 (up3 (up3 (up3 S cM_primary l0 (ix l1) (0 : Int32)) cM_allErrors l0 (ix l1) (0 : Int32)) cM_window l0 (ix l1) (S cM_room l0 0)) cM_kept l0 (ix l1) (0 : Int32))) rfl ?_
    exact t_M_empty_226 scr l0 l1 ((3 : Int32) * l1) (up3 (up3 (up3 (up3 S cM_primary l0 (ix l1) (0 : Int32)) cM_allErrors l0 (ix l1) (0 : Int32)) cM_window l0 (ix l1) (S cM_room l0 0)) cM_kept l0 (ix l1) (0 : Int32)) T _ hx hG
set_option maxRecDepth 100000 in
theorem t_M_empty_134 (scr : Nat × (Nat → Int32)) (l0 : Nat) (l1 : Int32) (l2 : Int32) (S : St) (T : St) (d3 : Option iV) {x : St} {o : Option iV × SS} (hx : f_M_empty_134 l0 l1 (l2, S) = some x) (hG : (fun x => (none, (T, x)) = o) x) : EB scr 0 1 0 cd_M_empty (134, [some (vR 1 l0), some (vI l1), some (vI l2), d3], []) (T, S) o := by
  exact iter_ind (P := fun q => ∀ d3 : Option iV, EB scr 0 1 0 cd_M_empty (134, [some (vR 1 l0), some (vI l1), some (vI q.1), d3], []) (T, q.2) o) (G := fun x => (none, (T, x)) = o) (fun q x hb hP d3 => t_M_empty_134_b scr l0 l1 q.1 q.2 T d3 hb hP) hx hG d3
def f_M_empty_97_b (l0 : Nat) (l1 : Int32)  : (Int32 × St) → Option ((Int32 × St) ⊕ (St))
  | (l2, S) => if l2 < (3 : Int32) then (if inb (((3 : Int32) * l1) + l2) 6 = true then if inb (((3 : Int32) * l1) + l2) 6 = true then some (Sum.inl (l2 + (1 : Int32), up3 (up3 S cM_orders l0 (ix (((3 : Int32) * l1) + l2)) (0 : Int32)) cM_nextOrder l0 (ix (((3 : Int32) * l1) + l2)) (0 : Int32))) else none else none) else exW (f_M_empty_134 l0 l1 ((2 : Int32) * l1, S))
def f_M_empty_97 (l0 : Nat) (l1 : Int32)  (q : Int32 × St) : Option (St) := iter (f_M_empty_97_b l0 l1) 4096 q
set_option maxRecDepth 100000 in
theorem t_M_empty_97_b (scr : Nat × (Nat → Int32)) (l0 : Nat) (l1 : Int32) (l2 : Int32) (S : St) (T : St) (d3 : Option iV) {x : (Int32 × St) ⊕ (St)} {o : Option iV × SS} (hx : f_M_empty_97_b l0 l1 (l2, S) = some x) (hG : (Sum.elim (fun q => ∀ d3 : Option iV, EB scr 0 1 0 cd_M_empty (97, [some (vR 1 l0), some (vI l1), some (vI q.1), d3], []) (T, q.2) o) (fun x => (none, (T, x)) = o)) x) : EB scr 0 1 0 cd_M_empty (97, [some (vR 1 l0), some (vI l1), some (vI l2), d3], []) (T, S) o := by
  unfold f_M_empty_97_b at hx
  dsimp only at hx
  refine ev_steps 2 (c' := (99, [some (vR 1 l0), some (vI l1), some (vI l2), _], [vI (3 : Int32), vI l2])) (h' := (T, S)) rfl ?_
  refine ev_icmp_ge rfl (fun hc => ?_) (fun hc => ?_)
  · rw [if_pos hc] at hx
    refine ev_steps 8 (c' := (112, [some (vR 1 l0), some (vI l1), some (vI l2), _], [vI (0 : Int32), vI (((3 : Int32) * l1) + l2), vR 102 l0])) (h' := (T, S)) rfl ?_
    obtain ⟨hg, hx⟩ := ifg hx
    refine ev_iast rfl rfl hg ?_
    refine ev_steps 8 (c' := (123, [some (vR 1 l0), some (vI l1), some (vI l2), _], [vI (0 : Int32), vI (((3 : Int32) * l1) + l2), vR 118 l0])) (h' := (T, up3 S cM_orders l0 (ix (((3 : Int32) * l1) + l2)) (0 : Int32))) rfl ?_
    obtain ⟨hg, hx⟩ := ifg hx
    refine ev_iast rfl rfl hg ?_
    refine ev_steps 2 (c' := (97, [some (vR 1 l0), some (vI l1), some (vI (l2 + (1 : Int32))), _], [])) (h' := (T, up3 (up3 S cM_orders l0 (ix (((3 : Int32) * l1) + l2)) (0 : Int32)) cM_nextOrder l0 (ix (((3 : Int32) * l1) + l2)) (0 : Int32))) rfl ?_
    cases hx
    exact hG _
  · rw [if_neg hc] at hx
    obtain ⟨x, hy, rfl⟩ := exW_some hx
    replace hx := hy
    simp only [Sum.elim_inr] at hG
    refine ev_steps 4 (c' := (134, [some (vR 1 l0), some (vI l1), some (vI ((2 : Int32) * l1)), _], [])) (h' := (T, S)) rfl ?_
    exact t_M_empty_134 scr l0 l1 ((2 : Int32) * l1) S T _ hx hG
set_option maxRecDepth 100000 in
theorem t_M_empty_97 (scr : Nat × (Nat → Int32)) (l0 : Nat) (l1 : Int32) (l2 : Int32) (S : St) (T : St) (d3 : Option iV) {x : St} {o : Option iV × SS} (hx : f_M_empty_97 l0 l1 (l2, S) = some x) (hG : (fun x => (none, (T, x)) = o) x) : EB scr 0 1 0 cd_M_empty (97, [some (vR 1 l0), some (vI l1), some (vI l2), d3], []) (T, S) o := by
  exact iter_ind (P := fun q => ∀ d3 : Option iV, EB scr 0 1 0 cd_M_empty (97, [some (vR 1 l0), some (vI l1), some (vI q.1), d3], []) (T, q.2) o) (G := fun x => (none, (T, x)) = o) (fun q x hb hP d3 => t_M_empty_97_b scr l0 l1 q.1 q.2 T d3 hb hP) hx hG d3
def f_M_empty_56_b (l0 : Nat) (l1 : Int32)  : (Int32 × St) → Option ((Int32 × St) ⊕ (St))
  | (l2, S) => if l2 < (544 : Int32) then (if inb (((544 : Int32) * l1) + l2) 1088 = true then if inb (((544 : Int32) * l1) + l2) 1088 = true then some (Sum.inl (l2 + (1 : Int32), up3 (up3 S cM_had l0 (ix (((544 : Int32) * l1) + l2)) (0 : Int32)) cM_held l0 (ix (((544 : Int32) * l1) + l2)) (0 : Int32))) else none else none) else exW (f_M_empty_97 l0 l1 ((0 : Int32), S))
def f_M_empty_56 (l0 : Nat) (l1 : Int32)  (q : Int32 × St) : Option (St) := iter (f_M_empty_56_b l0 l1) 4096 q
set_option maxRecDepth 100000 in
theorem t_M_empty_56_b (scr : Nat × (Nat → Int32)) (l0 : Nat) (l1 : Int32) (l2 : Int32) (S : St) (T : St) (d3 : Option iV) {x : (Int32 × St) ⊕ (St)} {o : Option iV × SS} (hx : f_M_empty_56_b l0 l1 (l2, S) = some x) (hG : (Sum.elim (fun q => ∀ d3 : Option iV, EB scr 0 1 0 cd_M_empty (56, [some (vR 1 l0), some (vI l1), some (vI q.1), d3], []) (T, q.2) o) (fun x => (none, (T, x)) = o)) x) : EB scr 0 1 0 cd_M_empty (56, [some (vR 1 l0), some (vI l1), some (vI l2), d3], []) (T, S) o := by
  unfold f_M_empty_56_b at hx
  dsimp only at hx
  refine ev_steps 2 (c' := (60, [some (vR 1 l0), some (vI l1), some (vI l2), _], [vI (544 : Int32), vI l2])) (h' := (T, S)) rfl ?_
  refine ev_icmp_ge rfl (fun hc => ?_) (fun hc => ?_)
  · rw [if_pos hc] at hx
    refine ev_steps 8 (c' := (75, [some (vR 1 l0), some (vI l1), some (vI l2), _], [vI (0 : Int32), vI (((544 : Int32) * l1) + l2), vR 112 l0])) (h' := (T, S)) rfl ?_
    obtain ⟨hg, hx⟩ := ifg hx
    refine ev_bast rfl rfl hg rfl ?_
    refine ev_steps 8 (c' := (88, [some (vR 1 l0), some (vI l1), some (vI l2), _], [vI (0 : Int32), vI (((544 : Int32) * l1) + l2), vR 113 l0])) (h' := (T, up3 S cM_had l0 (ix (((544 : Int32) * l1) + l2)) (0 : Int32))) rfl ?_
    obtain ⟨hg, hx⟩ := ifg hx
    refine ev_bast rfl rfl hg rfl ?_
    refine ev_steps 2 (c' := (56, [some (vR 1 l0), some (vI l1), some (vI (l2 + (1 : Int32))), _], [])) (h' := (T, up3 (up3 S cM_had l0 (ix (((544 : Int32) * l1) + l2)) (0 : Int32)) cM_held l0 (ix (((544 : Int32) * l1) + l2)) (0 : Int32))) rfl ?_
    cases hx
    exact hG _
  · rw [if_neg hc] at hx
    obtain ⟨x, hy, rfl⟩ := exW_some hx
    replace hx := hy
    simp only [Sum.elim_inr] at hG
    refine ev_steps 2 (c' := (97, [some (vR 1 l0), some (vI l1), some (vI (0 : Int32)), _], [])) (h' := (T, S)) rfl ?_
    exact t_M_empty_97 scr l0 l1 (0 : Int32) S T _ hx hG
set_option maxRecDepth 100000 in
theorem t_M_empty_56 (scr : Nat × (Nat → Int32)) (l0 : Nat) (l1 : Int32) (l2 : Int32) (S : St) (T : St) (d3 : Option iV) {x : St} {o : Option iV × SS} (hx : f_M_empty_56 l0 l1 (l2, S) = some x) (hG : (fun x => (none, (T, x)) = o) x) : EB scr 0 1 0 cd_M_empty (56, [some (vR 1 l0), some (vI l1), some (vI l2), d3], []) (T, S) o := by
  exact iter_ind (P := fun q => ∀ d3 : Option iV, EB scr 0 1 0 cd_M_empty (56, [some (vR 1 l0), some (vI l1), some (vI q.1), d3], []) (T, q.2) o) (G := fun x => (none, (T, x)) = o) (fun q x hb hP d3 => t_M_empty_56_b scr l0 l1 q.1 q.2 T d3 hb hP) hx hG d3
def f_M_empty_30_b (l0 : Nat) (l1 : Int32)  : (Int32 × St) → Option ((Int32 × St) ⊕ (St))
  | (l2, S) => if l2 < (32 : Int32) then (if inb (((32 : Int32) * l1) + l2) 64 = true then some (Sum.inl (l2 + (1 : Int32), up3 S cM_word l0 (ix (((32 : Int32) * l1) + l2)) (0 : Int32))) else none) else exW (f_M_empty_56 l0 l1 ((0 : Int32), S))
def f_M_empty_30 (l0 : Nat) (l1 : Int32)  (q : Int32 × St) : Option (St) := iter (f_M_empty_30_b l0 l1) 4096 q
set_option maxRecDepth 100000 in
theorem t_M_empty_30_b (scr : Nat × (Nat → Int32)) (l0 : Nat) (l1 : Int32) (l2 : Int32) (S : St) (T : St) (d3 : Option iV) {x : (Int32 × St) ⊕ (St)} {o : Option iV × SS} (hx : f_M_empty_30_b l0 l1 (l2, S) = some x) (hG : (Sum.elim (fun q => ∀ d3 : Option iV, EB scr 0 1 0 cd_M_empty (30, [some (vR 1 l0), some (vI l1), some (vI q.1), d3], []) (T, q.2) o) (fun x => (none, (T, x)) = o)) x) : EB scr 0 1 0 cd_M_empty (30, [some (vR 1 l0), some (vI l1), some (vI l2), d3], []) (T, S) o := by
  unfold f_M_empty_30_b at hx
  dsimp only at hx
  refine ev_steps 2 (c' := (33, [some (vR 1 l0), some (vI l1), some (vI l2), _], [vI (32 : Int32), vI l2])) (h' := (T, S)) rfl ?_
  refine ev_icmp_ge rfl (fun hc => ?_) (fun hc => ?_)
  · rw [if_pos hc] at hx
    refine ev_steps 8 (c' := (47, [some (vR 1 l0), some (vI l1), some (vI l2), _], [vI (0 : Int32), vI (((32 : Int32) * l1) + l2), vR 103 l0])) (h' := (T, S)) rfl ?_
    obtain ⟨hg, hx⟩ := ifg hx
    refine ev_iast rfl rfl hg ?_
    refine ev_steps 2 (c' := (30, [some (vR 1 l0), some (vI l1), some (vI (l2 + (1 : Int32))), _], [])) (h' := (T, up3 S cM_word l0 (ix (((32 : Int32) * l1) + l2)) (0 : Int32))) rfl ?_
    cases hx
    exact hG _
  · rw [if_neg hc] at hx
    obtain ⟨x, hy, rfl⟩ := exW_some hx
    replace hx := hy
    simp only [Sum.elim_inr] at hG
    refine ev_steps 2 (c' := (56, [some (vR 1 l0), some (vI l1), some (vI (0 : Int32)), _], [])) (h' := (T, S)) rfl ?_
    exact t_M_empty_56 scr l0 l1 (0 : Int32) S T _ hx hG
set_option maxRecDepth 100000 in
theorem t_M_empty_30 (scr : Nat × (Nat → Int32)) (l0 : Nat) (l1 : Int32) (l2 : Int32) (S : St) (T : St) (d3 : Option iV) {x : St} {o : Option iV × SS} (hx : f_M_empty_30 l0 l1 (l2, S) = some x) (hG : (fun x => (none, (T, x)) = o) x) : EB scr 0 1 0 cd_M_empty (30, [some (vR 1 l0), some (vI l1), some (vI l2), d3], []) (T, S) o := by
  exact iter_ind (P := fun q => ∀ d3 : Option iV, EB scr 0 1 0 cd_M_empty (30, [some (vR 1 l0), some (vI l1), some (vI q.1), d3], []) (T, q.2) o) (G := fun x => (none, (T, x)) = o) (fun q x hb hP d3 => t_M_empty_30_b scr l0 l1 q.1 q.2 T d3 hb hP) hx hG d3
def f_M_empty (u : Nat) (a1 : Int32) (S : St) : Option (St) :=
  if inb a1 2 = true then if inb a1 2 = true then if inb a1 2 = true then if inb a1 2 = true then f_M_empty_30 u a1 ((0 : Int32), up3 (up3 (up3 (up3 S cM_gone u (ix a1) (0 : Int32)) cM_given u (ix a1) (0 : Int32)) cM_sackOf u (ix a1) (0 : Int32)) cM_latest u (ix a1) (0 : Int32)) else none else none else none else none
set_option maxRecDepth 100000 in
theorem t_M_empty (scr : Nat × (Nat → Int32)) (u : Nat) (a1 : Int32) (S T : St) {x : St} {o : Option iV × SS} (hx : f_M_empty u a1 S = some x) (hG : (none, (T, x)) = o) : E0 scr 1 41 [vR 1 u, vI a1] (T, S) o := by
  refine ev_meth (ls := [some (vR 1 u), some (vI a1), none, none]) rfl rfl rfl ?_
  unfold f_M_empty at hx
  refine ev_steps 4 (c' := (6, [some (vR 1 u), some (vI a1), none, none], [vI (0 : Int32), vI a1, vR 100 u])) (h' := (T, S)) rfl ?_
  obtain ⟨hg, hx⟩ := ifg hx
  refine ev_iast rfl rfl hg ?_
  refine ev_steps 4 (c' := (13, [some (vR 1 u), some (vI a1), none, none], [vI (0 : Int32), vI a1, vR 101 u])) (h' := (T, up3 S cM_gone u (ix a1) (0 : Int32))) rfl ?_
  obtain ⟨hg, hx⟩ := ifg hx
  refine ev_iast rfl rfl hg ?_
  refine ev_steps 4 (c' := (20, [some (vR 1 u), some (vI a1), none, none], [vI (0 : Int32), vI a1, vR 110 u])) (h' := (T, up3 (up3 S cM_gone u (ix a1) (0 : Int32)) cM_given u (ix a1) (0 : Int32))) rfl ?_
  obtain ⟨hg, hx⟩ := ifg hx
  refine ev_iast rfl rfl hg ?_
  refine ev_steps 4 (c' := (27, [some (vR 1 u), some (vI a1), none, none], [vI (0 : Int32), vI a1, vR 111 u])) (h' := (T, up3 (up3 (up3 S cM_gone u (ix a1) (0 : Int32)) cM_given u (ix a1) (0 : Int32)) cM_sackOf u (ix a1) (0 : Int32))) rfl ?_
  obtain ⟨hg, hx⟩ := ifg hx
  refine ev_iast rfl rfl hg ?_
  refine ev_steps 2 (c' := (30, [some (vR 1 u), some (vI a1), some (vI (0 : Int32)), none], [])) (h' := (T, up3 (up3 (up3 (up3 S cM_gone u (ix a1) (0 : Int32)) cM_given u (ix a1) (0 : Int32)) cM_sackOf u (ix a1) (0 : Int32)) cM_latest u (ix a1) (0 : Int32))) rfl ?_
  exact t_M_empty_30 scr u a1 (0 : Int32) (up3 (up3 (up3 (up3 S cM_gone u (ix a1) (0 : Int32)) cM_given u (ix a1) (0 : Int32)) cM_sackOf u (ix a1) (0 : Int32)) cM_latest u (ix a1) (0 : Int32)) T _ hx hG
-- M_comeUp
def f_M_comeUp (u : Nat) (a1 : Int32) (a2 : Int32) (a3 : Int32) (S : St) : Option (St) :=
  if inb a1 2 = true then if inb a1 2 = true then if inb a1 2 = true then bd (f_M_empty u a1 (up3 (up3 (up3 S cM_state u (ix a1) (3 : Int32)) cM_own u (ix a1) a2) cM_other u (ix a1) a3)) (fun S224 => some S224) else none else none else none
theorem t_M_comeUp (scr : Nat × (Nat → Int32)) (u : Nat) (a1 : Int32) (a2 : Int32) (a3 : Int32) (S T : St) {x : St} {o : Option iV × SS} (hx : f_M_comeUp u a1 a2 a3 S = some x) (hG : (none, (T, x)) = o) : E0 scr 2 42 [vR 1 u, vI a1, vI a2, vI a3] (T, S) o := by
  refine ev_meth (ls := [some (vR 1 u), some (vI a1), some (vI a2), some (vI a3)]) rfl rfl rfl ?_
  unfold f_M_comeUp at hx
  refine ev_steps 4 (c' := (6, [some (vR 1 u), some (vI a1), some (vI a2), some (vI a3)], [vI (3 : Int32), vI a1, vR 79 u])) (h' := (T, S)) rfl ?_
  obtain ⟨hg, hx⟩ := ifg hx
  refine ev_iast rfl rfl hg ?_
  refine ev_steps 4 (c' := (13, [some (vR 1 u), some (vI a1), some (vI a2), some (vI a3)], [vI a2, vI a1, vR 80 u])) (h' := (T, up3 S cM_state u (ix a1) (3 : Int32))) rfl ?_
  obtain ⟨hg, hx⟩ := ifg hx
  refine ev_iast rfl rfl hg ?_
  refine ev_steps 4 (c' := (20, [some (vR 1 u), some (vI a1), some (vI a2), some (vI a3)], [vI a3, vI a1, vR 81 u])) (h' := (T, up3 (up3 S cM_state u (ix a1) (3 : Int32)) cM_own u (ix a1) a2)) rfl ?_
  obtain ⟨hg, hx⟩ := ifg hx
  refine ev_iast rfl rfl hg ?_
  refine ev_steps 2 (c' := (23, [some (vR 1 u), some (vI a1), some (vI a2), some (vI a3)], [vI a1, vR 1 u])) (h' := (T, up3 (up3 (up3 S cM_state u (ix a1) (3 : Int32)) cM_own u (ix a1) a2) cM_other u (ix a1) a3)) rfl ?_
  obtain ⟨S224, hc, hx⟩ := bd_some hx
  refine ev_call rfl rfl rfl rfl rfl rfl rfl rfl rfl ((t_M_empty scr u a1 (up3 (up3 (up3 S cM_state u (ix a1) (3 : Int32)) cM_own u (ix a1) a2) cM_other u (ix a1) a3) T hc rfl).mono (by decide)) ?_
  refine ev_steps 0 (c' := (26, [some (vR 1 u), some (vI a1), some (vI a2), some (vI a3)], [])) (h' := (T, S224)) rfl ?_
  cases hx
  subst hG
  exact ev_ret rfl rfl
-- M_close
def f_M_close (u : Nat) (a1 : Int32) (a2 : Int32) (S : St) : Option (St) :=
  if inb a1 2 = true then if inb a1 2 = true then if inb a1 2 = true then if inb a1 2 = true then bd (f_M_empty u a1 (up3 (up3 (up3 (up3 S cM_state u (ix a1) (0 : Int32)) cM_own u (ix a1) (0 : Int32)) cM_other u (ix a1) (0 : Int32)) cM_report u (ix a1) a2)) (fun S226 => some S226) else none else none else none else none
theorem t_M_close (scr : Nat × (Nat → Int32)) (u : Nat) (a1 : Int32) (a2 : Int32) (S T : St) {x : St} {o : Option iV × SS} (hx : f_M_close u a1 a2 S = some x) (hG : (none, (T, x)) = o) : E0 scr 2 43 [vR 1 u, vI a1, vI a2] (T, S) o := by
  refine ev_meth (ls := [some (vR 1 u), some (vI a1), some (vI a2)]) rfl rfl rfl ?_
  unfold f_M_close at hx
  refine ev_steps 4 (c' := (6, [some (vR 1 u), some (vI a1), some (vI a2)], [vI (0 : Int32), vI a1, vR 79 u])) (h' := (T, S)) rfl ?_
  obtain ⟨hg, hx⟩ := ifg hx
  refine ev_iast rfl rfl hg ?_
  refine ev_steps 4 (c' := (13, [some (vR 1 u), some (vI a1), some (vI a2)], [vI (0 : Int32), vI a1, vR 80 u])) (h' := (T, up3 S cM_state u (ix a1) (0 : Int32))) rfl ?_
  obtain ⟨hg, hx⟩ := ifg hx
  refine ev_iast rfl rfl hg ?_
  refine ev_steps 4 (c' := (20, [some (vR 1 u), some (vI a1), some (vI a2)], [vI (0 : Int32), vI a1, vR 81 u])) (h' := (T, up3 (up3 S cM_state u (ix a1) (0 : Int32)) cM_own u (ix a1) (0 : Int32))) rfl ?_
  obtain ⟨hg, hx⟩ := ifg hx
  refine ev_iast rfl rfl hg ?_
  refine ev_steps 4 (c' := (27, [some (vR 1 u), some (vI a1), some (vI a2)], [vI a2, vI a1, vR 82 u])) (h' := (T, up3 (up3 (up3 S cM_state u (ix a1) (0 : Int32)) cM_own u (ix a1) (0 : Int32)) cM_other u (ix a1) (0 : Int32))) rfl ?_
  obtain ⟨hg, hx⟩ := ifg hx
  refine ev_iast rfl rfl hg ?_
  refine ev_steps 2 (c' := (30, [some (vR 1 u), some (vI a1), some (vI a2)], [vI a1, vR 1 u])) (h' := (T, up3 (up3 (up3 (up3 S cM_state u (ix a1) (0 : Int32)) cM_own u (ix a1) (0 : Int32)) cM_other u (ix a1) (0 : Int32)) cM_report u (ix a1) a2)) rfl ?_
  obtain ⟨S226, hc, hx⟩ := bd_some hx
  refine ev_call rfl rfl rfl rfl rfl rfl rfl rfl rfl ((t_M_empty scr u a1 (up3 (up3 (up3 (up3 S cM_state u (ix a1) (0 : Int32)) cM_own u (ix a1) (0 : Int32)) cM_other u (ix a1) (0 : Int32)) cM_report u (ix a1) a2) T hc rfl).mono (by decide)) ?_
  refine ev_steps 0 (c' := (33, [some (vR 1 u), some (vI a1), some (vI a2)], [])) (h' := (T, S226)) rfl ?_
  cases hx
  subst hG
  exact ev_ret rfl rfl
-- M_pathToUse
def f_M_pathToUse_35 (l2 : Int32) (S : St) : Option (Int32) :=
  some l2
theorem t_M_pathToUse_35 (scr : Nat × (Nat → Int32)) (l2 : Int32) (S : St) (T : St) (d0 d1 : Option iV) {x : Int32} {o : Option iV × SS} (hx : f_M_pathToUse_35 l2 S = some x) (hG : (fun x => (some (vI x), (T, S)) = o) x) : EB scr 0 1 1 cd_M_pathToUse (35, [d0, d1, some (vI l2)], []) (T, S) o := by
  unfold f_M_pathToUse_35 at hx
  try dsimp only at hG
  refine ev_steps 2 (c' := (42, [_, _, some (vI l2)], [vI l2])) (h' := (T, S)) rfl ?_
  cases hx
  subst hG
  exact ev_ret rfl rfl
def f_M_pathToUse (u : Nat) (a1 : Int32) (S : St) : Option (Int32) :=
  if inb a1 2 = true then if inb (((2 : Int32) * a1) + (S cM_primary u (ix a1))) 4 = true then if (nz (S cM_active u (ix (((2 : Int32) * a1) + (S cM_primary u (ix a1)))))) = 0 then (if inb ((((2 : Int32) * a1) + (1 : Int32)) - (S cM_primary u (ix a1))) 4 = true then if (nz (S cM_active u (ix ((((2 : Int32) * a1) + (1 : Int32)) - (S cM_primary u (ix a1)))))) = 0 then f_M_pathToUse_35 (S cM_primary u (ix a1)) S else some ((1 : Int32) - (S cM_primary u (ix a1))) else none) else f_M_pathToUse_35 (S cM_primary u (ix a1)) S else none else none
theorem t_M_pathToUse (scr : Nat × (Nat → Int32)) (u : Nat) (a1 : Int32) (S T : St) {x : Int32} {o : Option iV × SS} (hx : f_M_pathToUse u a1 S = some x) (hG : (some (vI x), (T, S)) = o) : E0 scr 1 44 [vR 1 u, vI a1] (T, S) o := by
  refine ev_meth (ls := [some (vR 1 u), some (vI a1), none]) rfl rfl rfl ?_
  unfold f_M_pathToUse at hx
  refine ev_steps 3 (c' := (5, [some (vR 1 u), some (vI a1), none], [vI a1, vR 88 u])) (h' := (T, S)) rfl ?_
  obtain ⟨hg, hx⟩ := ifg hx
  refine ev_iald rfl rfl rfl hg ?_
  refine ev_steps 8 (c' := (16, [some (vR 1 u), some (vI a1), some (vI (S cM_primary u (ix a1)))], [vI (((2 : Int32) * a1) + (S cM_primary u (ix a1))), vR 91 u])) (h' := (T, S)) rfl ?_
  obtain ⟨hg, hx⟩ := ifg hx
  refine ev_bald rfl rfl hg ?_
  refine ev_steps 0 (c' := (17, [some (vR 1 u), some (vI a1), some (vI (S cM_primary u (ix a1)))], [vI (nz (S cM_active u (ix (((2 : Int32) * a1) + (S cM_primary u (ix a1))))))])) (h' := (T, S)) rfl ?_
  refine ev_if_ne rfl (fun hc => ?_) (fun hc => ?_)
  · rw [if_pos hc] at hx
    refine ev_steps 9 (c' := (31, [some (vR 1 u), some (vI a1), some (vI (S cM_primary u (ix a1)))], [vI ((((2 : Int32) * a1) + (1 : Int32)) - (S cM_primary u (ix a1))), vR 91 u])) (h' := (T, S)) rfl ?_
    obtain ⟨hg, hx⟩ := ifg hx
    refine ev_bald rfl rfl hg ?_
    refine ev_steps 0 (c' := (32, [some (vR 1 u), some (vI a1), some (vI (S cM_primary u (ix a1)))], [vI (nz (S cM_active u (ix ((((2 : Int32) * a1) + (1 : Int32)) - (S cM_primary u (ix a1))))))])) (h' := (T, S)) rfl ?_
    refine ev_if_ne rfl (fun hc => ?_) (fun hc => ?_)
    · rw [if_pos hc] at hx
      exact t_M_pathToUse_35 scr (S cM_primary u (ix a1)) S T _ _ hx hG
    · rw [if_neg hc] at hx
      refine ev_steps 3 (c' := (42, [some (vR 1 u), some (vI a1), some (vI (S cM_primary u (ix a1)))], [vI ((1 : Int32) - (S cM_primary u (ix a1)))])) (h' := (T, S)) rfl ?_
      cases hx
      subst hG
      exact ev_ret rfl rfl
  · rw [if_neg hc] at hx
    exact t_M_pathToUse_35 scr (S cM_primary u (ix a1)) S T _ _ hx hG
-- M_abort
def f_M_abort_16 (S : St) : Option (Int32 × St) :=
  some ((0 : Int32), S)
theorem t_M_abort_16 (scr : Nat × (Nat → Int32)) (S : St) (T : St) (d0 d1 : Option iV) {x : Int32 × St} {o : Option iV × SS} (hx : f_M_abort_16 S = some x) (hG : (fun x => (some (vI x.1), (T, x.2)) = o) x) : EB scr 2 1 2 cd_M_abort (16, [d0, d1], []) (T, S) o := by
  unfold f_M_abort_16 at hx
  try dsimp only at hG
  refine ev_steps 1 (c' := (17, [_, _], [vI (0 : Int32)])) (h' := (T, S)) rfl ?_
  cases hx
  subst hG
  exact ev_ret rfl rfl
def f_M_abort_48 (l0 : Nat) (l1 : Int32) (S : St) : Option (Int32 × St) :=
  bd (f_M_close l0 l1 (3 : Int32) S) (fun S228 => some ((1 : Int32), S228))
theorem t_M_abort_48 (scr : Nat × (Nat → Int32)) (l0 : Nat) (l1 : Int32) (S : St) (T : St) {x : Int32 × St} {o : Option iV × SS} (hx : f_M_abort_48 l0 l1 S = some x) (hG : (fun x => (some (vI x.1), (T, x.2)) = o) x) : EB scr 2 1 2 cd_M_abort (48, [some (vR 1 l0), some (vI l1)], []) (T, S) o := by
  unfold f_M_abort_48 at hx
  try dsimp only at hG
  refine ev_steps 3 (c' := (51, [some (vR 1 l0), some (vI l1)], [vI (3 : Int32), vI l1, vR 1 l0])) (h' := (T, S)) rfl ?_
  obtain ⟨S228, hc, hx⟩ := bd_some hx
  refine ev_call rfl rfl rfl rfl rfl rfl rfl rfl rfl ((t_M_close scr l0 l1 (3 : Int32) S T hc rfl).mono (by decide)) ?_
  refine ev_steps 1 (c' := (55, [some (vR 1 l0), some (vI l1)], [vI (1 : Int32)])) (h' := (T, S228)) rfl ?_
  cases hx
  subst hG
  exact ev_ret rfl rfl
def f_M_abort (u : Nat) (a1 : Int32) (S : St) : Option (Int32 × St) :=
  if (f_M_isTwo a1) = 0 then f_M_abort_16 S else (if inb a1 2 = true then if (S cM_state u (ix a1)) = 0 then f_M_abort_16 S else (if inb a1 2 = true then if (S cM_state u (ix a1)) = (3 : Int32) then (bd (f_M_pathToUse u a1 S) (fun r229 => if inb a1 2 = true then bd (f_M_post u a1 r229 (S cM_other u (ix a1)) (8 : Int32) (0 : Int32) (0 : Int32) S) (fun S232 => f_M_abort_48 u a1 S232) else none)) else f_M_abort_48 u a1 S else none) else none)
theorem t_M_abort (scr : Nat × (Nat → Int32)) (u : Nat) (a1 : Int32) (S T : St) {x : Int32 × St} {o : Option iV × SS} (hx : f_M_abort u a1 S = some x) (hG : (some (vI x.1), (T, x.2)) = o) : E0 scr 3 45 [vR 1 u, vI a1] (T, S) o := by
  refine ev_meth (ls := [some (vR 1 u), some (vI a1)]) rfl rfl rfl ?_
  unfold f_M_abort at hx
  refine ev_steps 1 (c' := (1, [some (vR 1 u), some (vI a1)], [vI a1])) (h' := (T, S)) rfl ?_
  refine ev_call rfl rfl rfl rfl rfl rfl rfl rfl rfl ((t_M_isTwo scr a1 S T rfl).mono (by decide)) ?_
  refine ev_steps 0 (c' := (4, [some (vR 1 u), some (vI a1)], [vI (f_M_isTwo a1)])) (h' := (T, S)) rfl ?_
  refine ev_if_eq rfl (fun hc => ?_) (fun hc => ?_)
  · rw [if_pos hc] at hx
    exact t_M_abort_16 scr S T _ _ hx hG
  · rw [if_neg hc] at hx
    refine ev_steps 3 (c' := (12, [some (vR 1 u), some (vI a1)], [vI a1, vR 79 u])) (h' := (T, S)) rfl ?_
    obtain ⟨hg, hx⟩ := ifg hx
    refine ev_iald rfl rfl rfl hg ?_
    refine ev_steps 0 (c' := (13, [some (vR 1 u), some (vI a1)], [vI (S cM_state u (ix a1))])) (h' := (T, S)) rfl ?_
    refine ev_if_ne rfl (fun hc => ?_) (fun hc => ?_)
    · rw [if_pos hc] at hx
      exact t_M_abort_16 scr S T _ _ hx hG
    · rw [if_neg hc] at hx
      refine ev_steps 3 (c' := (23, [some (vR 1 u), some (vI a1)], [vI a1, vR 79 u])) (h' := (T, S)) rfl ?_
      obtain ⟨hg, hx⟩ := ifg hx
      refine ev_iald rfl rfl rfl hg ?_
      refine ev_steps 1 (c' := (25, [some (vR 1 u), some (vI a1)], [vI (3 : Int32), vI (S cM_state u (ix a1))])) (h' := (T, S)) rfl ?_
      refine ev_icmp_ne rfl (fun hc => ?_) (fun hc => ?_)
      · rw [if_pos hc] at hx
        refine ev_steps 4 (c' := (32, [some (vR 1 u), some (vI a1)], [vI a1, vR 1 u, vI a1, vR 1 u])) (h' := (T, S)) rfl ?_
        obtain ⟨r229, hc, hx⟩ := bd_some hx
        refine ev_call rfl rfl rfl rfl rfl rfl rfl rfl rfl ((t_M_pathToUse scr u a1 S T hc rfl).mono (by decide)) ?_
        refine ev_steps 3 (c' := (40, [some (vR 1 u), some (vI a1)], [vI a1, vR 81 u, vI r229, vI a1, vR 1 u])) (h' := (T, S)) rfl ?_
        obtain ⟨hg, hx⟩ := ifg hx
        refine ev_iald rfl rfl rfl hg ?_
        refine ev_steps 3 (c' := (45, [some (vR 1 u), some (vI a1)], [vI (0 : Int32), vI (0 : Int32), vI (8 : Int32), vI (S cM_other u (ix a1)), vI r229, vI a1, vR 1 u])) (h' := (T, S)) rfl ?_
        obtain ⟨S232, hc, hx⟩ := bd_some hx
        refine ev_call rfl rfl rfl rfl rfl rfl rfl rfl rfl ((t_M_post scr u a1 r229 (S cM_other u (ix a1)) (8 : Int32) (0 : Int32) (0 : Int32) S T hc rfl).mono (by decide)) ?_
        refine ev_steps 0 (c' := (48, [some (vR 1 u), some (vI a1)], [])) (h' := (T, S232)) rfl ?_
        exact t_M_abort_48 scr u a1 S232 T hx hG
      · rw [if_neg hc] at hx
        exact t_M_abort_48 scr u a1 S T hx hG
-- M_primary
def f_M_primary_24 (S : St) : Option (Int32 × St) :=
  some ((0 : Int32), S)
theorem t_M_primary_24 (scr : Nat × (Nat → Int32)) (S : St) (T : St) (d0 d1 d2 : Option iV) {x : Int32 × St} {o : Option iV × SS} (hx : f_M_primary_24 S = some x) (hG : (fun x => (some (vI x.1), (T, x.2)) = o) x) : EB scr 1 1 2 cd_M_primary (24, [d0, d1, d2], []) (T, S) o := by
  unfold f_M_primary_24 at hx
  try dsimp only at hG
  refine ev_steps 1 (c' := (25, [_, _, _], [vI (0 : Int32)])) (h' := (T, S)) rfl ?_
  cases hx
  subst hG
  exact ev_ret rfl rfl
def f_M_primary (u : Nat) (a1 : Int32) (a2 : Int32) (S : St) : Option (Int32 × St) :=
  if (f_M_isTwo a1) = 0 then f_M_primary_24 S else (if (f_M_isTwo a2) = 0 then f_M_primary_24 S else (if inb a1 2 = true then if (S cM_state u (ix a1)) = (3 : Int32) then (if inb a1 2 = true then some ((1 : Int32), up3 S cM_primary u (ix a1) a2) else none) else f_M_primary_24 S else none))
theorem t_M_primary (scr : Nat × (Nat → Int32)) (u : Nat) (a1 : Int32) (a2 : Int32) (S T : St) {x : Int32 × St} {o : Option iV × SS} (hx : f_M_primary u a1 a2 S = some x) (hG : (some (vI x.1), (T, x.2)) = o) : E0 scr 2 46 [vR 1 u, vI a1, vI a2] (T, S) o := by
  refine ev_meth (ls := [some (vR 1 u), some (vI a1), some (vI a2)]) rfl rfl rfl ?_
  unfold f_M_primary at hx
  refine ev_steps 1 (c' := (1, [some (vR 1 u), some (vI a1), some (vI a2)], [vI a1])) (h' := (T, S)) rfl ?_
  refine ev_call rfl rfl rfl rfl rfl rfl rfl rfl rfl ((t_M_isTwo scr a1 S T rfl).mono (by decide)) ?_
  refine ev_steps 0 (c' := (4, [some (vR 1 u), some (vI a1), some (vI a2)], [vI (f_M_isTwo a1)])) (h' := (T, S)) rfl ?_
  refine ev_if_eq rfl (fun hc => ?_) (fun hc => ?_)
  · rw [if_pos hc] at hx
    exact t_M_primary_24 scr S T _ _ _ hx hG
  · rw [if_neg hc] at hx
    refine ev_steps 1 (c' := (8, [some (vR 1 u), some (vI a1), some (vI a2)], [vI a2])) (h' := (T, S)) rfl ?_
    refine ev_call rfl rfl rfl rfl rfl rfl rfl rfl rfl ((t_M_isTwo scr a2 S T rfl).mono (by decide)) ?_
    refine ev_steps 0 (c' := (11, [some (vR 1 u), some (vI a1), some (vI a2)], [vI (f_M_isTwo a2)])) (h' := (T, S)) rfl ?_
    refine ev_if_eq rfl (fun hc => ?_) (fun hc => ?_)
    · rw [if_pos hc] at hx
      exact t_M_primary_24 scr S T _ _ _ hx hG
    · rw [if_neg hc] at hx
      refine ev_steps 3 (c' := (19, [some (vR 1 u), some (vI a1), some (vI a2)], [vI a1, vR 79 u])) (h' := (T, S)) rfl ?_
      obtain ⟨hg, hx⟩ := ifg hx
      refine ev_iald rfl rfl rfl hg ?_
      refine ev_steps 1 (c' := (21, [some (vR 1 u), some (vI a1), some (vI a2)], [vI (3 : Int32), vI (S cM_state u (ix a1))])) (h' := (T, S)) rfl ?_
      refine ev_icmp_eq rfl (fun hc => ?_) (fun hc => ?_)
      · rw [if_pos hc] at hx
        refine ev_steps 4 (c' := (32, [some (vR 1 u), some (vI a1), some (vI a2)], [vI a2, vI a1, vR 88 u])) (h' := (T, S)) rfl ?_
        obtain ⟨hg, hx⟩ := ifg hx
        refine ev_iast rfl rfl hg ?_
        refine ev_steps 1 (c' := (34, [some (vR 1 u), some (vI a1), some (vI a2)], [vI (1 : Int32)])) (h' := (T, up3 S cM_primary u (ix a1) a2)) rfl ?_
        cases hx
        subst hG
        exact ev_ret rfl rfl
      · rw [if_neg hc] at hx
        exact t_M_primary_24 scr S T _ _ _ hx hG
-- M_tagFor
def f_M_tagFor (u : Nat) (a1 : Int32) (S : St) : Int32 :=
  if a1 = (f_M_mixed (-2128831035 : Int32) (S cM_key u 0)) then (f_M_mixed (-2128831035 : Int32) (S cM_key u 0)) else a1 ^^^ (f_M_mixed (-2128831035 : Int32) (S cM_key u 0))
theorem t_M_tagFor (scr : Nat × (Nat → Int32)) (u : Nat) (a1 : Int32) (S T : St) {o : Option iV × SS} (hG : (some (vI (f_M_tagFor u a1 S)), (T, S)) = o) : E0 scr 2 49 [vR 1 u, vI a1] (T, S) o := by
  refine ev_meth (ls := [some (vR 1 u), some (vI a1), none]) rfl rfl rfl ?_
  unfold f_M_tagFor at hG
  refine ev_steps 3 (c' := (6, [some (vR 1 u), some (vI a1), none], [vI (S cM_key u 0), vI (-2128831035 : Int32)])) (h' := (T, S)) rfl ?_
  refine ev_call rfl rfl rfl rfl rfl rfl rfl rfl rfl ((t_M_mixed scr (-2128831035 : Int32) (S cM_key u 0) S T rfl).mono (by decide)) ?_
  refine ev_steps 3 (c' := (12, [some (vR 1 u), some (vI a1), some (vI (f_M_mixed (-2128831035 : Int32) (S cM_key u 0)))], [vI (f_M_mixed (-2128831035 : Int32) (S cM_key u 0)), vI a1])) (h' := (T, S)) rfl ?_
  refine ev_icmp_ne rfl (fun hc => ?_) (fun hc => ?_)
  · rw [if_pos hc] at hG
    refine ev_steps 2 (c' := (22, [some (vR 1 u), some (vI a1), some (vI (f_M_mixed (-2128831035 : Int32) (S cM_key u 0)))], [vI (f_M_mixed (-2128831035 : Int32) (S cM_key u 0))])) (h' := (T, S)) rfl ?_
    subst hG
    exact ev_ret rfl rfl
  · rw [if_neg hc] at hG
    refine ev_steps 3 (c' := (22, [some (vR 1 u), some (vI a1), some (vI (f_M_mixed (-2128831035 : Int32) (S cM_key u 0)))], [vI (a1 ^^^ (f_M_mixed (-2128831035 : Int32) (S cM_key u 0)))])) (h' := (T, S)) rfl ?_
    subst hG
    exact ev_ret rfl rfl
