/-! Methods as functions on the store, printed by a program. -/
-- M_tickPath
def f_M_tickPath_197 (l0 : Nat) (l1 : Int32) (l2 : Int32) (l3 : Int32) (S : St) : Option (St) :=
  if inb l1 2 = true then if (S cM_state l0 (ix l1)) = (3 : Int32) then (if inb l3 4 = true then if inb l3 4 = true then if inb l1 2 = true then bd (f_M_post l0 l1 l2 (S cM_other l0 (ix l1)) (6 : Int32) (S cM_now l0 0) (0 : Int32) (up3 (up3 S cM_beating l0 (ix l3) (1 : Int32)) cM_beat l0 (ix l3) (S cM_now l0 0))) (fun S324 => some S324) else none else none else none) else some S else none
set_option maxRecDepth 100000 in
theorem t_M_tickPath_197 (scr : Nat × (Nat → Int32)) (l0 : Nat) (l1 : Int32) (l2 : Int32) (l3 : Int32) (S : St) (T : St) (d4 d5 : Option iV) {x : St} {o : Option iV × SS} (hx : f_M_tickPath_197 l0 l1 l2 l3 S = some x) (hG : (fun x => (none, (T, x)) = o) x) : EB scr 3 1 0 cd_M_tickPath (197, [some (vR 1 l0), some (vI l1), some (vI l2), some (vI l3), d4, d5], []) (T, S) o := by
  unfold f_M_tickPath_197 at hx
  try dsimp only at hG
  refine ev_steps 3 (c' := (202, [some (vR 1 l0), some (vI l1), some (vI l2), some (vI l3), _, _], [vI l1, vR 79 l0])) (h' := (T, S)) rfl ?_
  obtain ⟨hg, hx⟩ := ifg hx
  refine ev_iald rfl rfl rfl hg ?_
  refine ev_steps 1 (c' := (204, [some (vR 1 l0), some (vI l1), some (vI l2), some (vI l3), _, _], [vI (3 : Int32), vI (S cM_state l0 (ix l1))])) (h' := (T, S)) rfl ?_
  refine ev_icmp_ne rfl (fun hc => ?_) (fun hc => ?_)
  · rw [if_pos hc] at hx
    refine ev_steps 4 (c' := (213, [some (vR 1 l0), some (vI l1), some (vI l2), some (vI l3), _, _], [vI (1 : Int32), vI l3, vR 97 l0])) (h' := (T, S)) rfl ?_
    obtain ⟨hg, hx⟩ := ifg hx
    refine ev_bast rfl rfl hg rfl ?_
    refine ev_steps 5 (c' := (223, [some (vR 1 l0), some (vI l1), some (vI l2), some (vI l3), _, _], [vI (S cM_now l0 0), vI l3, vR 98 l0])) (h' := (T, up3 S cM_beating l0 (ix l3) (1 : Int32))) rfl ?_
    obtain ⟨hg, hx⟩ := ifg hx
    refine ev_iast rfl rfl hg ?_
    refine ev_steps 6 (c' := (232, [some (vR 1 l0), some (vI l1), some (vI l2), some (vI l3), _, _], [vI l1, vR 81 l0, vI l2, vI l1, vR 1 l0])) (h' := (T, up3 (up3 S cM_beating l0 (ix l3) (1 : Int32)) cM_beat l0 (ix l3) (S cM_now l0 0))) rfl ?_
    obtain ⟨hg, hx⟩ := ifg hx
    refine ev_iald rfl rfl rfl hg ?_
    refine ev_steps 4 (c' := (240, [some (vR 1 l0), some (vI l1), some (vI l2), some (vI l3), _, _], [vI (0 : Int32), vI (S cM_now l0 0), vI (6 : Int32), vI (S cM_other l0 (ix l1)), vI l2, vI l1, vR 1 l0])) (h' := (T, up3 (up3 S cM_beating l0 (ix l3) (1 : Int32)) cM_beat l0 (ix l3) (S cM_now l0 0))) rfl ?_
    obtain ⟨S324, hc, hx⟩ := bd_some hx
    refine ev_call rfl rfl rfl rfl rfl rfl rfl rfl rfl ((t_M_post scr l0 l1 l2 (S cM_other l0 (ix l1)) (6 : Int32) (S cM_now l0 0) (0 : Int32) (up3 (up3 S cM_beating l0 (ix l3) (1 : Int32)) cM_beat l0 (ix l3) (S cM_now l0 0)) T hc rfl).mono (by decide)) ?_
    refine ev_steps 0 (c' := (243, [some (vR 1 l0), some (vI l1), some (vI l2), some (vI l3), _, _], [])) (h' := (T, S324)) rfl ?_
    cases hx
    subst hG
    exact ev_ret rfl rfl
  · rw [if_neg hc] at hx
    cases hx
    subst hG
    exact ev_ret rfl rfl
def f_M_tickPath_162 (l0 : Nat) (l1 : Int32) (l2 : Int32) (l3 : Int32) (S : St) : Option (St) :=
  if (iRem (S cM_now l0 0) (8 : Int32)) = 0 then (bd (f_M_count l0 l1 (2 : Int32) l2 S) (fun r321 => if r321 = 0 then (if inb l3 4 = true then if (nz (S cM_beating l0 (ix l3))) = 0 then f_M_tickPath_197 l0 l1 l2 l3 S else (bd (f_M_fail l0 l1 l2 S) (fun S326 => f_M_tickPath_197 l0 l1 l2 l3 S326)) else none) else some S)) else some S
set_option maxRecDepth 100000 in
theorem t_M_tickPath_162 (scr : Nat × (Nat → Int32)) (l0 : Nat) (l1 : Int32) (l2 : Int32) (l3 : Int32) (S : St) (T : St) (d4 d5 : Option iV) {x : St} {o : Option iV × SS} (hx : f_M_tickPath_162 l0 l1 l2 l3 S = some x) (hG : (fun x => (none, (T, x)) = o) x) : EB scr 3 1 0 cd_M_tickPath (162, [some (vR 1 l0), some (vI l1), some (vI l2), some (vI l3), d4, d5], []) (T, S) o := by
  unfold f_M_tickPath_162 at hx
  try dsimp only at hG
  refine ev_steps 4 (c' := (169, [some (vR 1 l0), some (vI l1), some (vI l2), some (vI l3), _, _], [vI (iRem (S cM_now l0 0) (8 : Int32))])) (h' := (T, S)) rfl ?_
  refine ev_if_ne rfl (fun hc => ?_) (fun hc => ?_)
  · rw [if_pos hc] at hx
    refine ev_steps 4 (c' := (176, [some (vR 1 l0), some (vI l1), some (vI l2), some (vI l3), _, _], [vI l2, vI (2 : Int32), vI l1, vR 1 l0])) (h' := (T, S)) rfl ?_
    obtain ⟨r321, hc, hx⟩ := bd_some hx
    refine ev_call rfl rfl rfl rfl rfl rfl rfl rfl rfl ((t_M_count scr l0 l1 (2 : Int32) l2 S T hc rfl).mono (by decide)) ?_
    refine ev_steps 0 (c' := (179, [some (vR 1 l0), some (vI l1), some (vI l2), some (vI l3), _, _], [vI r321])) (h' := (T, S)) rfl ?_
    refine ev_if_ne rfl (fun hc => ?_) (fun hc => ?_)
    · rw [if_pos hc] at hx
      refine ev_steps 3 (c' := (187, [some (vR 1 l0), some (vI l1), some (vI l2), some (vI l3), _, _], [vI l3, vR 97 l0])) (h' := (T, S)) rfl ?_
      obtain ⟨hg, hx⟩ := ifg hx
      refine ev_bald rfl rfl hg ?_
      refine ev_steps 0 (c' := (188, [some (vR 1 l0), some (vI l1), some (vI l2), some (vI l3), _, _], [vI (nz (S cM_beating l0 (ix l3)))])) (h' := (T, S)) rfl ?_
      refine ev_if_eq rfl (fun hc => ?_) (fun hc => ?_)
      · rw [if_pos hc] at hx
        exact t_M_tickPath_197 scr l0 l1 l2 l3 S T _ _ hx hG
      · rw [if_neg hc] at hx
        refine ev_steps 3 (c' := (194, [some (vR 1 l0), some (vI l1), some (vI l2), some (vI l3), _, _], [vI l2, vI l1, vR 1 l0])) (h' := (T, S)) rfl ?_
        obtain ⟨S326, hc, hx⟩ := bd_some hx
        refine ev_call rfl rfl rfl rfl rfl rfl rfl rfl rfl ((t_M_fail scr l0 l1 l2 S T hc rfl).mono (by decide)) ?_
        refine ev_steps 0 (c' := (197, [some (vR 1 l0), some (vI l1), some (vI l2), some (vI l3), _, _], [])) (h' := (T, S326)) rfl ?_
        exact t_M_tickPath_197 scr l0 l1 l2 l3 S326 T _ _ hx hG
    · rw [if_neg hc] at hx
      cases hx
      subst hG
      exact ev_ret rfl rfl
  · rw [if_neg hc] at hx
    cases hx
    subst hG
    exact ev_ret rfl rfl
def f_M_tickPath_145 (l0 : Nat) (l1 : Int32) (l2 : Int32) (l3 : Int32) (s0 : Nat) (s1 : Int32) (s2 : Int32) (S : St) : Option (St) :=
  if inb s1 4 = true then if inb l3 4 = true then bd (f_M_fail l0 l1 l2 (up3 (up3 S cM_wait s0 (ix s1) s2) cM_runs l0 (ix l3) (0 : Int32))) (fun S328 => some S328) else none else none
set_option maxRecDepth 100000 in
theorem t_M_tickPath_145 (scr : Nat × (Nat → Int32)) (l0 : Nat) (l1 : Int32) (l2 : Int32) (l3 : Int32) (s0 : Nat) (s1 : Int32) (s2 : Int32) (S : St) (T : St) (d4 d5 : Option iV) {x : St} {o : Option iV × SS} (hx : f_M_tickPath_145 l0 l1 l2 l3 s0 s1 s2 S = some x) (hG : (fun x => (none, (T, x)) = o) x) : EB scr 3 1 0 cd_M_tickPath (145, [some (vR 1 l0), some (vI l1), some (vI l2), some (vI l3), d4, d5], [vI s2, vI s1, vR 93 s0]) (T, S) o := by
  unfold f_M_tickPath_145 at hx
  try dsimp only at hG
  obtain ⟨hg, hx⟩ := ifg hx
  refine ev_iast rfl rfl hg ?_
  refine ev_steps 4 (c' := (152, [some (vR 1 l0), some (vI l1), some (vI l2), some (vI l3), _, _], [vI (0 : Int32), vI l3, vR 95 l0])) (h' := (T, up3 S cM_wait s0 (ix s1) s2)) rfl ?_
  obtain ⟨hg, hx⟩ := ifg hx
  refine ev_bast rfl rfl hg rfl ?_
  refine ev_steps 3 (c' := (156, [some (vR 1 l0), some (vI l1), some (vI l2), some (vI l3), _, _], [vI l2, vI l1, vR 1 l0])) (h' := (T, up3 (up3 S cM_wait s0 (ix s1) s2) cM_runs l0 (ix l3) (0 : Int32))) rfl ?_
  obtain ⟨S328, hc, hx⟩ := bd_some hx
  refine ev_call rfl rfl rfl rfl rfl rfl rfl rfl rfl ((t_M_fail scr l0 l1 l2 (up3 (up3 S cM_wait s0 (ix s1) s2) cM_runs l0 (ix l3) (0 : Int32)) T hc rfl).mono (by decide)) ?_
  refine ev_steps 1 (c' := (243, [some (vR 1 l0), some (vI l1), some (vI l2), some (vI l3), _, _], [])) (h' := (T, S328)) rfl ?_
  cases hx
  subst hG
  exact ev_ret rfl rfl
def f_M_tickPath_100 (l0 : Nat) (l1 : Int32) (l2 : Int32) (l3 : Int32) (l4 : Int32) (s0 : Nat) (s1 : Int32) (s2 : Int32) (S : St) : Option ((Int32 × St) ⊕ (St)) :=
  if inb s1 64 = true then some (Sum.inl (l4 + (1 : Int32), up3 S cM_word s0 (ix s1) s2)) else none
set_option maxRecDepth 100000 in
theorem t_M_tickPath_100 (scr : Nat × (Nat → Int32)) (l0 : Nat) (l1 : Int32) (l2 : Int32) (l3 : Int32) (l4 : Int32) (s0 : Nat) (s1 : Int32) (s2 : Int32) (S : St) (T : St) (d5 : Option iV) {x : (Int32 × St) ⊕ (St)} {o : Option iV × SS} (hx : f_M_tickPath_100 l0 l1 l2 l3 l4 s0 s1 s2 S = some x) (hG : (Sum.elim (fun q => ∀ d5 : Option iV, EB scr 3 1 0 cd_M_tickPath (38, [some (vR 1 l0), some (vI l1), some (vI l2), some (vI l3), some (vI q.1), d5], []) (T, q.2) o) (fun x => (none, (T, x)) = o)) x) : EB scr 3 1 0 cd_M_tickPath (100, [some (vR 1 l0), some (vI l1), some (vI l2), some (vI l3), some (vI l4), d5], [vI s2, vI s1, vR 103 s0]) (T, S) o := by
  unfold f_M_tickPath_100 at hx
  try dsimp only at hG
  obtain ⟨hg, hx⟩ := ifg hx
  refine ev_iast rfl rfl hg ?_
  refine ev_steps 2 (c' := (38, [some (vR 1 l0), some (vI l1), some (vI l2), some (vI l3), some (vI (l4 + (1 : Int32))), _], [])) (h' := (T, up3 S cM_word s0 (ix s1) s2)) rfl ?_
  cases hx
  exact hG _
def f_M_tickPath_93 (l0 : Nat) (l1 : Int32) (l2 : Int32) (l3 : Int32) (l4 : Int32) (l5 : Int32) (s0 : Nat) (s1 : Int32) (S : St) : Option ((Int32 × St) ⊕ (St)) :=
  if inb l5 64 = true then f_M_tickPath_100 l0 l1 l2 l3 l4 s0 s1 (S cM_word l0 (ix l5)) S else none
set_option maxRecDepth 100000 in
theorem t_M_tickPath_93 (scr : Nat × (Nat → Int32)) (l0 : Nat) (l1 : Int32) (l2 : Int32) (l3 : Int32) (l4 : Int32) (l5 : Int32) (s0 : Nat) (s1 : Int32) (S : St) (T : St) {x : (Int32 × St) ⊕ (St)} {o : Option iV × SS} (hx : f_M_tickPath_93 l0 l1 l2 l3 l4 l5 s0 s1 S = some x) (hG : (Sum.elim (fun q => ∀ d5 : Option iV, EB scr 3 1 0 cd_M_tickPath (38, [some (vR 1 l0), some (vI l1), some (vI l2), some (vI l3), some (vI q.1), d5], []) (T, q.2) o) (fun x => (none, (T, x)) = o)) x) : EB scr 3 1 0 cd_M_tickPath (93, [some (vR 1 l0), some (vI l1), some (vI l2), some (vI l3), some (vI l4), some (vI l5)], [vI s1, vR 103 s0]) (T, S) o := by
  unfold f_M_tickPath_93 at hx
  try dsimp only at hG
  refine ev_steps 3 (c' := (99, [some (vR 1 l0), some (vI l1), some (vI l2), some (vI l3), some (vI l4), some (vI l5)], [vI l5, vR 103 l0, vI s1, vR 103 s0])) (h' := (T, S)) rfl ?_
  obtain ⟨hg, hx⟩ := ifg hx
  refine ev_iald rfl rfl rfl hg ?_
  refine ev_steps 0 (c' := (100, [some (vR 1 l0), some (vI l1), some (vI l2), some (vI l3), some (vI l4), some (vI l5)], [vI (S cM_word l0 (ix l5)), vI s1, vR 103 s0])) (h' := (T, S)) rfl ?_
  exact t_M_tickPath_100 scr l0 l1 l2 l3 l4 s0 s1 (S cM_word l0 (ix l5)) S T _ hx hG
def f_M_tickPath_38_b (l0 : Nat) (l1 : Int32) (l2 : Int32) (l3 : Int32)  : (Int32 × St) → Option ((Int32 × St) ⊕ (St))
  | (l4, S) => if inb l1 2 = true then if (S cM_given l0 (ix l1)) < l4 then exW (if inb l3 4 = true then if inb l3 4 = true then if (24 : Int32) < ((S cM_wait l0 (ix l3)) * (2 : Int32)) then f_M_tickPath_145 l0 l1 l2 l3 l0 l3 (24 : Int32) (up3 S cM_rate l0 (ix l3) (1 : Int32)) else (if inb l3 4 = true then f_M_tickPath_145 l0 l1 l2 l3 l0 l3 ((S cM_wait l0 (ix l3)) * (2 : Int32)) (up3 S cM_rate l0 (ix l3) (1 : Int32)) else none) else none else none) else (if inb (((32 : Int32) * l1) + (iRem l4 (32 : Int32))) 64 = true then if (S cM_word l0 (ix (((32 : Int32) * l1) + (iRem l4 (32 : Int32))))) = (2 : Int32) then (if inb (((32 : Int32) * l1) + (iRem l4 (32 : Int32))) 64 = true then if (S cM_sentOn l0 (ix (((32 : Int32) * l1) + (iRem l4 (32 : Int32))))) = l2 then f_M_tickPath_100 l0 l1 l2 l3 l4 l0 (((32 : Int32) * l1) + (iRem l4 (32 : Int32))) (3 : Int32) S else f_M_tickPath_93 l0 l1 l2 l3 l4 (((32 : Int32) * l1) + (iRem l4 (32 : Int32))) l0 (((32 : Int32) * l1) + (iRem l4 (32 : Int32))) S else none) else f_M_tickPath_93 l0 l1 l2 l3 l4 (((32 : Int32) * l1) + (iRem l4 (32 : Int32))) l0 (((32 : Int32) * l1) + (iRem l4 (32 : Int32))) S else none) else none
def f_M_tickPath_38 (l0 : Nat) (l1 : Int32) (l2 : Int32) (l3 : Int32)  (q : Int32 × St) : Option (St) := iter (f_M_tickPath_38_b l0 l1 l2 l3) 4096 q
set_option maxRecDepth 100000 in
theorem t_M_tickPath_38_b (scr : Nat × (Nat → Int32)) (l0 : Nat) (l1 : Int32) (l2 : Int32) (l3 : Int32) (l4 : Int32) (S : St) (T : St) (d5 : Option iV) {x : (Int32 × St) ⊕ (St)} {o : Option iV × SS} (hx : f_M_tickPath_38_b l0 l1 l2 l3 (l4, S) = some x) (hG : (Sum.elim (fun q => ∀ d5 : Option iV, EB scr 3 1 0 cd_M_tickPath (38, [some (vR 1 l0), some (vI l1), some (vI l2), some (vI l3), some (vI q.1), d5], []) (T, q.2) o) (fun x => (none, (T, x)) = o)) x) : EB scr 3 1 0 cd_M_tickPath (38, [some (vR 1 l0), some (vI l1), some (vI l2), some (vI l3), some (vI l4), d5], []) (T, S) o := by
  unfold f_M_tickPath_38_b at hx
  dsimp only at hx
  refine ev_steps 4 (c' := (45, [some (vR 1 l0), some (vI l1), some (vI l2), some (vI l3), some (vI l4), _], [vI l1, vR 101 l0, vI l4])) (h' := (T, S)) rfl ?_
  obtain ⟨hg, hx⟩ := ifg hx
  refine ev_iald rfl rfl rfl hg ?_
  refine ev_steps 0 (c' := (46, [some (vR 1 l0), some (vI l1), some (vI l2), some (vI l3), some (vI l4), _], [vI (S cM_given l0 (ix l1)), vI l4])) (h' := (T, S)) rfl ?_
  refine ev_icmp_gt rfl (fun hc => ?_) (fun hc => ?_)
  · rw [if_pos hc] at hx
    obtain ⟨x, hy, rfl⟩ := exW_some hx
    replace hx := hy
    simp only [Sum.elim_inr] at hG
    refine ev_steps 4 (c' := (113, [some (vR 1 l0), some (vI l1), some (vI l2), some (vI l3), some (vI l4), _], [vI (1 : Int32), vI l3, vR 92 l0])) (h' := (T, S)) rfl ?_
    obtain ⟨hg, hx⟩ := ifg hx
    refine ev_iast rfl rfl hg ?_
    refine ev_steps 6 (c' := (124, [some (vR 1 l0), some (vI l1), some (vI l2), some (vI l3), some (vI l4), _], [vI l3, vR 93 l0, vI l3, vR 93 l0])) (h' := (T, up3 S cM_rate l0 (ix l3) (1 : Int32))) rfl ?_
    obtain ⟨hg, hx⟩ := ifg hx
    refine ev_iald rfl rfl rfl hg ?_
    refine ev_steps 3 (c' := (129, [some (vR 1 l0), some (vI l1), some (vI l2), some (vI l3), some (vI l4), _], [vI (24 : Int32), vI ((S cM_wait l0 (ix l3)) * (2 : Int32)), vI l3, vR 93 l0])) (h' := (T, up3 S cM_rate l0 (ix l3) (1 : Int32))) rfl ?_
    refine ev_icmp_le rfl (fun hc => ?_) (fun hc => ?_)
    · rw [if_pos hc] at hx
      refine ev_steps 2 (c' := (145, [some (vR 1 l0), some (vI l1), some (vI l2), some (vI l3), some (vI l4), _], [vI (24 : Int32), vI l3, vR 93 l0])) (h' := (T, up3 S cM_rate l0 (ix l3) (1 : Int32))) rfl ?_
      exact t_M_tickPath_145 scr l0 l1 l2 l3 l0 l3 (24 : Int32) (up3 S cM_rate l0 (ix l3) (1 : Int32)) T _ _ hx hG
    · rw [if_neg hc] at hx
      refine ev_steps 3 (c' := (142, [some (vR 1 l0), some (vI l1), some (vI l2), some (vI l3), some (vI l4), _], [vI l3, vR 93 l0, vI l3, vR 93 l0])) (h' := (T, up3 S cM_rate l0 (ix l3) (1 : Int32))) rfl ?_
      obtain ⟨hg, hx⟩ := ifg hx
      refine ev_iald rfl rfl rfl hg ?_
      refine ev_steps 2 (c' := (145, [some (vR 1 l0), some (vI l1), some (vI l2), some (vI l3), some (vI l4), _], [vI ((S cM_wait l0 (ix l3)) * (2 : Int32)), vI l3, vR 93 l0])) (h' := (T, up3 S cM_rate l0 (ix l3) (1 : Int32))) rfl ?_
      exact t_M_tickPath_145 scr l0 l1 l2 l3 l0 l3 ((S cM_wait l0 (ix l3)) * (2 : Int32)) (up3 S cM_rate l0 (ix l3) (1 : Int32)) T _ _ hx hG
  · rw [if_neg hc] at hx
    refine ev_steps 14 (c' := (73, [some (vR 1 l0), some (vI l1), some (vI l2), some (vI l3), some (vI l4), some (vI (((32 : Int32) * l1) + (iRem l4 (32 : Int32))))], [vI (((32 : Int32) * l1) + (iRem l4 (32 : Int32))), vR 103 l0, vI (((32 : Int32) * l1) + (iRem l4 (32 : Int32))), vR 103 l0])) (h' := (T, S)) rfl ?_
    obtain ⟨hg, hx⟩ := ifg hx
    refine ev_iald rfl rfl rfl hg ?_
    refine ev_steps 1 (c' := (75, [some (vR 1 l0), some (vI l1), some (vI l2), some (vI l3), some (vI l4), some (vI (((32 : Int32) * l1) + (iRem l4 (32 : Int32))))], [vI (2 : Int32), vI (S cM_word l0 (ix (((32 : Int32) * l1) + (iRem l4 (32 : Int32))))), vI (((32 : Int32) * l1) + (iRem l4 (32 : Int32))), vR 103 l0])) (h' := (T, S)) rfl ?_
    refine ev_icmp_ne rfl (fun hc => ?_) (fun hc => ?_)
    · rw [if_pos hc] at hx
      refine ev_steps 3 (c' := (84, [some (vR 1 l0), some (vI l1), some (vI l2), some (vI l3), some (vI l4), some (vI (((32 : Int32) * l1) + (iRem l4 (32 : Int32))))], [vI (((32 : Int32) * l1) + (iRem l4 (32 : Int32))), vR 108 l0, vI (((32 : Int32) * l1) + (iRem l4 (32 : Int32))), vR 103 l0])) (h' := (T, S)) rfl ?_
      obtain ⟨hg, hx⟩ := ifg hx
      refine ev_iald rfl rfl rfl hg ?_
      refine ev_steps 1 (c' := (86, [some (vR 1 l0), some (vI l1), some (vI l2), some (vI l3), some (vI l4), some (vI (((32 : Int32) * l1) + (iRem l4 (32 : Int32))))], [vI l2, vI (S cM_sentOn l0 (ix (((32 : Int32) * l1) + (iRem l4 (32 : Int32))))), vI (((32 : Int32) * l1) + (iRem l4 (32 : Int32))), vR 103 l0])) (h' := (T, S)) rfl ?_
      refine ev_icmp_ne rfl (fun hc => ?_) (fun hc => ?_)
      · rw [if_pos hc] at hx
        refine ev_steps 2 (c' := (100, [some (vR 1 l0), some (vI l1), some (vI l2), some (vI l3), some (vI l4), some (vI (((32 : Int32) * l1) + (iRem l4 (32 : Int32))))], [vI (3 : Int32), vI (((32 : Int32) * l1) + (iRem l4 (32 : Int32))), vR 103 l0])) (h' := (T, S)) rfl ?_
        exact t_M_tickPath_100 scr l0 l1 l2 l3 l4 l0 (((32 : Int32) * l1) + (iRem l4 (32 : Int32))) (3 : Int32) S T _ hx hG
      · rw [if_neg hc] at hx
        exact t_M_tickPath_93 scr l0 l1 l2 l3 l4 (((32 : Int32) * l1) + (iRem l4 (32 : Int32))) l0 (((32 : Int32) * l1) + (iRem l4 (32 : Int32))) S T hx hG
    · rw [if_neg hc] at hx
      exact t_M_tickPath_93 scr l0 l1 l2 l3 l4 (((32 : Int32) * l1) + (iRem l4 (32 : Int32))) l0 (((32 : Int32) * l1) + (iRem l4 (32 : Int32))) S T hx hG
set_option maxRecDepth 100000 in
theorem t_M_tickPath_38 (scr : Nat × (Nat → Int32)) (l0 : Nat) (l1 : Int32) (l2 : Int32) (l3 : Int32) (l4 : Int32) (S : St) (T : St) (d5 : Option iV) {x : St} {o : Option iV × SS} (hx : f_M_tickPath_38 l0 l1 l2 l3 (l4, S) = some x) (hG : (fun x => (none, (T, x)) = o) x) : EB scr 3 1 0 cd_M_tickPath (38, [some (vR 1 l0), some (vI l1), some (vI l2), some (vI l3), some (vI l4), d5], []) (T, S) o := by
  exact iter_ind (P := fun q => ∀ d5 : Option iV, EB scr 3 1 0 cd_M_tickPath (38, [some (vR 1 l0), some (vI l1), some (vI l2), some (vI l3), some (vI q.1), d5], []) (T, q.2) o) (G := fun x => (none, (T, x)) = o) (fun q x hb hP d5 => t_M_tickPath_38_b scr l0 l1 l2 l3 q.1 q.2 T d5 hb hP) hx hG d5
def f_M_tickPath (u : Nat) (a1 : Int32) (a2 : Int32) (S : St) : Option (St) :=
  if inb (((2 : Int32) * a1) + a2) 4 = true then if (nz (S cM_runs u (ix (((2 : Int32) * a1) + a2)))) = 0 then f_M_tickPath_162 u a1 a2 (((2 : Int32) * a1) + a2) S else (if inb (((2 : Int32) * a1) + a2) 4 = true then if (S cM_timer u (ix (((2 : Int32) * a1) + a2))) = (S cM_now u 0) then (if inb a1 2 = true then f_M_tickPath_38 u a1 a2 (((2 : Int32) * a1) + a2) ((S cM_gone u (ix a1)) + (1 : Int32), S) else none) else f_M_tickPath_162 u a1 a2 (((2 : Int32) * a1) + a2) S else none) else none
set_option maxRecDepth 100000 in
theorem t_M_tickPath (scr : Nat × (Nat → Int32)) (u : Nat) (a1 : Int32) (a2 : Int32) (S T : St) {x : St} {o : Option iV × SS} (hx : f_M_tickPath u a1 a2 S = some x) (hG : (none, (T, x)) = o) : E0 scr 4 69 [vR 1 u, vI a1, vI a2] (T, S) o := by
  refine ev_meth (ls := [some (vR 1 u), some (vI a1), some (vI a2), none, none, none]) rfl rfl rfl ?_
  unfold f_M_tickPath at hx
  refine ev_steps 9 (c' := (11, [some (vR 1 u), some (vI a1), some (vI a2), some (vI (((2 : Int32) * a1) + a2)), none, none], [vI (((2 : Int32) * a1) + a2), vR 95 u])) (h' := (T, S)) rfl ?_
  obtain ⟨hg, hx⟩ := ifg hx
  refine ev_bald rfl rfl hg ?_
  refine ev_steps 0 (c' := (12, [some (vR 1 u), some (vI a1), some (vI a2), some (vI (((2 : Int32) * a1) + a2)), none, none], [vI (nz (S cM_runs u (ix (((2 : Int32) * a1) + a2))))])) (h' := (T, S)) rfl ?_
  refine ev_if_eq rfl (fun hc => ?_) (fun hc => ?_)
  · rw [if_pos hc] at hx
    exact t_M_tickPath_162 scr u a1 a2 (((2 : Int32) * a1) + a2) S T _ _ hx hG
  · rw [if_neg hc] at hx
    refine ev_steps 3 (c' := (20, [some (vR 1 u), some (vI a1), some (vI a2), some (vI (((2 : Int32) * a1) + a2)), none, none], [vI (((2 : Int32) * a1) + a2), vR 96 u])) (h' := (T, S)) rfl ?_
    obtain ⟨hg, hx⟩ := ifg hx
    refine ev_iald rfl rfl rfl hg ?_
    refine ev_steps 2 (c' := (25, [some (vR 1 u), some (vI a1), some (vI a2), some (vI (((2 : Int32) * a1) + a2)), none, none], [vI (S cM_now u 0), vI (S cM_timer u (ix (((2 : Int32) * a1) + a2)))])) (h' := (T, S)) rfl ?_
    refine ev_icmp_ne rfl (fun hc => ?_) (fun hc => ?_)
    · rw [if_pos hc] at hx
      refine ev_steps 3 (c' := (33, [some (vR 1 u), some (vI a1), some (vI a2), some (vI (((2 : Int32) * a1) + a2)), none, none], [vI a1, vR 100 u])) (h' := (T, S)) rfl ?_
      obtain ⟨hg, hx⟩ := ifg hx
      refine ev_iald rfl rfl rfl hg ?_
      refine ev_steps 3 (c' := (38, [some (vR 1 u), some (vI a1), some (vI a2), some (vI (((2 : Int32) * a1) + a2)), some (vI ((S cM_gone u (ix a1)) + (1 : Int32))), none], [])) (h' := (T, S)) rfl ?_
      exact t_M_tickPath_38 scr u a1 a2 (((2 : Int32) * a1) + a2) ((S cM_gone u (ix a1)) + (1 : Int32)) S T _ hx hG
    · rw [if_neg hc] at hx
      exact t_M_tickPath_162 scr u a1 a2 (((2 : Int32) * a1) + a2) S T _ _ hx hG
-- M_tick
def f_M_tick_105 (l0 : Nat) (l1 : Int32) (S : St) : Option ((Int32 × St) ⊕ (Int32 × St)) :=
  some (Sum.inl (l1 + (1 : Int32), S))
theorem t_M_tick_105 (scr : Nat × (Nat → Int32)) (l0 : Nat) (l1 : Int32) (S : St) (T : St) {x : (Int32 × St) ⊕ (Int32 × St)} {o : Option iV × SS} (hx : f_M_tick_105 l0 l1 S = some x) (hG : (Sum.elim (fun q => EB scr 4 1 1 cd_M_tick (12, [some (vR 1 l0), some (vI q.1)], []) (T, q.2) o) (fun x => (some (vI x.1), (T, x.2)) = o)) x) : EB scr 4 1 1 cd_M_tick (105, [some (vR 1 l0), some (vI l1)], []) (T, S) o := by
  unfold f_M_tick_105 at hx
  try dsimp only at hG
  refine ev_steps 2 (c' := (12, [some (vR 1 l0), some (vI (l1 + (1 : Int32)))], [])) (h' := (T, S)) rfl ?_
  cases hx
  exact hG
def f_M_tick_90 (l0 : Nat) (l1 : Int32) (S : St) : Option ((Int32 × St) ⊕ (Int32 × St)) :=
  if inb l1 2 = true then if (S cM_state l0 (ix l1)) = (3 : Int32) then (bd (f_M_sendWhatMay l0 l1 S) (fun S332 => f_M_tick_105 l0 l1 S332)) else f_M_tick_105 l0 l1 S else none
theorem t_M_tick_90 (scr : Nat × (Nat → Int32)) (l0 : Nat) (l1 : Int32) (S : St) (T : St) {x : (Int32 × St) ⊕ (Int32 × St)} {o : Option iV × SS} (hx : f_M_tick_90 l0 l1 S = some x) (hG : (Sum.elim (fun q => EB scr 4 1 1 cd_M_tick (12, [some (vR 1 l0), some (vI q.1)], []) (T, q.2) o) (fun x => (some (vI x.1), (T, x.2)) = o)) x) : EB scr 4 1 1 cd_M_tick (90, [some (vR 1 l0), some (vI l1)], []) (T, S) o := by
  unfold f_M_tick_90 at hx
  try dsimp only at hG
  refine ev_steps 3 (c' := (95, [some (vR 1 l0), some (vI l1)], [vI l1, vR 79 l0])) (h' := (T, S)) rfl ?_
  obtain ⟨hg, hx⟩ := ifg hx
  refine ev_iald rfl rfl rfl hg ?_
  refine ev_steps 1 (c' := (97, [some (vR 1 l0), some (vI l1)], [vI (3 : Int32), vI (S cM_state l0 (ix l1))])) (h' := (T, S)) rfl ?_
  refine ev_icmp_ne rfl (fun hc => ?_) (fun hc => ?_)
  · rw [if_pos hc] at hx
    refine ev_steps 2 (c' := (102, [some (vR 1 l0), some (vI l1)], [vI l1, vR 1 l0])) (h' := (T, S)) rfl ?_
    obtain ⟨S332, hc, hx⟩ := bd_some hx
    refine ev_call rfl rfl rfl rfl rfl rfl rfl rfl rfl ((t_M_sendWhatMay scr l0 l1 S T hc rfl).mono (by decide)) ?_
    refine ev_steps 0 (c' := (105, [some (vR 1 l0), some (vI l1)], [])) (h' := (T, S332)) rfl ?_
    exact t_M_tick_105 scr l0 l1 S332 T hx hG
  · rw [if_neg hc] at hx
    exact t_M_tick_105 scr l0 l1 S T hx hG
def f_M_tick_58 (l0 : Nat) (l1 : Int32) (S : St) : Option ((Int32 × St) ⊕ (Int32 × St)) :=
  if inb l1 2 = true then if (S cM_state l0 (ix l1)) = (3 : Int32) then (bd (f_M_tickPath l0 l1 (0 : Int32) S) (fun S330 => if inb l1 2 = true then if (S330 cM_state l0 (ix l1)) = (3 : Int32) then (bd (f_M_tickPath l0 l1 (1 : Int32) S330) (fun S334 => f_M_tick_90 l0 l1 S334)) else f_M_tick_90 l0 l1 S330 else none)) else f_M_tick_105 l0 l1 S else none
theorem t_M_tick_58 (scr : Nat × (Nat → Int32)) (l0 : Nat) (l1 : Int32) (S : St) (T : St) {x : (Int32 × St) ⊕ (Int32 × St)} {o : Option iV × SS} (hx : f_M_tick_58 l0 l1 S = some x) (hG : (Sum.elim (fun q => EB scr 4 1 1 cd_M_tick (12, [some (vR 1 l0), some (vI q.1)], []) (T, q.2) o) (fun x => (some (vI x.1), (T, x.2)) = o)) x) : EB scr 4 1 1 cd_M_tick (58, [some (vR 1 l0), some (vI l1)], []) (T, S) o := by
  unfold f_M_tick_58 at hx
  try dsimp only at hG
  refine ev_steps 3 (c' := (63, [some (vR 1 l0), some (vI l1)], [vI l1, vR 79 l0])) (h' := (T, S)) rfl ?_
  obtain ⟨hg, hx⟩ := ifg hx
  refine ev_iald rfl rfl rfl hg ?_
  refine ev_steps 1 (c' := (65, [some (vR 1 l0), some (vI l1)], [vI (3 : Int32), vI (S cM_state l0 (ix l1))])) (h' := (T, S)) rfl ?_
  refine ev_icmp_ne rfl (fun hc => ?_) (fun hc => ?_)
  · rw [if_pos hc] at hx
    refine ev_steps 3 (c' := (71, [some (vR 1 l0), some (vI l1)], [vI (0 : Int32), vI l1, vR 1 l0])) (h' := (T, S)) rfl ?_
    obtain ⟨S330, hc, hx⟩ := bd_some hx
    refine ev_call rfl rfl rfl rfl rfl rfl rfl rfl rfl ((t_M_tickPath scr l0 l1 (0 : Int32) S T hc rfl).mono (by decide)) ?_
    refine ev_steps 3 (c' := (79, [some (vR 1 l0), some (vI l1)], [vI l1, vR 79 l0])) (h' := (T, S330)) rfl ?_
    obtain ⟨hg, hx⟩ := ifg hx
    refine ev_iald rfl rfl rfl hg ?_
    refine ev_steps 1 (c' := (81, [some (vR 1 l0), some (vI l1)], [vI (3 : Int32), vI (S330 cM_state l0 (ix l1))])) (h' := (T, S330)) rfl ?_
    refine ev_icmp_ne rfl (fun hc => ?_) (fun hc => ?_)
    · rw [if_pos hc] at hx
      refine ev_steps 3 (c' := (87, [some (vR 1 l0), some (vI l1)], [vI (1 : Int32), vI l1, vR 1 l0])) (h' := (T, S330)) rfl ?_
      obtain ⟨S334, hc, hx⟩ := bd_some hx
      refine ev_call rfl rfl rfl rfl rfl rfl rfl rfl rfl ((t_M_tickPath scr l0 l1 (1 : Int32) S330 T hc rfl).mono (by decide)) ?_
      refine ev_steps 0 (c' := (90, [some (vR 1 l0), some (vI l1)], [])) (h' := (T, S334)) rfl ?_
      exact t_M_tick_90 scr l0 l1 S334 T hx hG
    · rw [if_neg hc] at hx
      exact t_M_tick_90 scr l0 l1 S330 T hx hG
  · rw [if_neg hc] at hx
    exact t_M_tick_105 scr l0 l1 S T hx hG
def f_M_tick_37 (l0 : Nat) (l1 : Int32) (S : St) : Option ((Int32 × St) ⊕ (Int32 × St)) :=
  if inb l1 2 = true then if (S cM_now l0 0) = (S cM_due l0 (ix l1)) then (bd (f_M_again l0 l1 S) (fun S336 => f_M_tick_105 l0 l1 S336)) else f_M_tick_58 l0 l1 S else none
theorem t_M_tick_37 (scr : Nat × (Nat → Int32)) (l0 : Nat) (l1 : Int32) (S : St) (T : St) {x : (Int32 × St) ⊕ (Int32 × St)} {o : Option iV × SS} (hx : f_M_tick_37 l0 l1 S = some x) (hG : (Sum.elim (fun q => EB scr 4 1 1 cd_M_tick (12, [some (vR 1 l0), some (vI q.1)], []) (T, q.2) o) (fun x => (some (vI x.1), (T, x.2)) = o)) x) : EB scr 4 1 1 cd_M_tick (37, [some (vR 1 l0), some (vI l1)], []) (T, S) o := by
  unfold f_M_tick_37 at hx
  try dsimp only at hG
  refine ev_steps 5 (c' := (46, [some (vR 1 l0), some (vI l1)], [vI l1, vR 87 l0, vI (S cM_now l0 0)])) (h' := (T, S)) rfl ?_
  obtain ⟨hg, hx⟩ := ifg hx
  refine ev_iald rfl rfl rfl hg ?_
  refine ev_steps 0 (c' := (47, [some (vR 1 l0), some (vI l1)], [vI (S cM_due l0 (ix l1)), vI (S cM_now l0 0)])) (h' := (T, S)) rfl ?_
  refine ev_icmp_ne rfl (fun hc => ?_) (fun hc => ?_)
  · rw [if_pos hc] at hx
    refine ev_steps 2 (c' := (52, [some (vR 1 l0), some (vI l1)], [vI l1, vR 1 l0])) (h' := (T, S)) rfl ?_
    obtain ⟨S336, hc, hx⟩ := bd_some hx
    refine ev_call rfl rfl rfl rfl rfl rfl rfl rfl rfl ((t_M_again scr l0 l1 S T hc rfl).mono (by decide)) ?_
    refine ev_steps 1 (c' := (105, [some (vR 1 l0), some (vI l1)], [])) (h' := (T, S336)) rfl ?_
    exact t_M_tick_105 scr l0 l1 S336 T hx hG
  · rw [if_neg hc] at hx
    exact t_M_tick_58 scr l0 l1 S T hx hG
def f_M_tick_12_b (l0 : Nat)  : (Int32 × St) → Option ((Int32 × St) ⊕ (Int32 × St))
  | (l1, S) => if l1 < (2 : Int32) then (if inb l1 2 = true then if (S cM_state l0 (ix l1)) = (1 : Int32) then f_M_tick_37 l0 l1 S else (if inb l1 2 = true then if (S cM_state l0 (ix l1)) = (2 : Int32) then f_M_tick_37 l0 l1 S else f_M_tick_58 l0 l1 S else none) else none) else exW (some (S cM_now l0 0, S))
def f_M_tick_12 (l0 : Nat)  (q : Int32 × St) : Option (Int32 × St) := iter (f_M_tick_12_b l0) 4096 q
theorem t_M_tick_12_b (scr : Nat × (Nat → Int32)) (l0 : Nat) (l1 : Int32) (S : St) (T : St) {x : (Int32 × St) ⊕ (Int32 × St)} {o : Option iV × SS} (hx : f_M_tick_12_b l0 (l1, S) = some x) (hG : (Sum.elim (fun q => EB scr 4 1 1 cd_M_tick (12, [some (vR 1 l0), some (vI q.1)], []) (T, q.2) o) (fun x => (some (vI x.1), (T, x.2)) = o)) x) : EB scr 4 1 1 cd_M_tick (12, [some (vR 1 l0), some (vI l1)], []) (T, S) o := by
  unfold f_M_tick_12_b at hx
  dsimp only at hx
  refine ev_steps 2 (c' := (14, [some (vR 1 l0), some (vI l1)], [vI (2 : Int32), vI l1])) (h' := (T, S)) rfl ?_
  refine ev_icmp_ge rfl (fun hc => ?_) (fun hc => ?_)
  · rw [if_pos hc] at hx
    refine ev_steps 3 (c' := (22, [some (vR 1 l0), some (vI l1)], [vI l1, vR 79 l0])) (h' := (T, S)) rfl ?_
    obtain ⟨hg, hx⟩ := ifg hx
    refine ev_iald rfl rfl rfl hg ?_
    refine ev_steps 1 (c' := (24, [some (vR 1 l0), some (vI l1)], [vI (1 : Int32), vI (S cM_state l0 (ix l1))])) (h' := (T, S)) rfl ?_
    refine ev_icmp_eq rfl (fun hc => ?_) (fun hc => ?_)
    · rw [if_pos hc] at hx
      exact t_M_tick_37 scr l0 l1 S T hx hG
    · rw [if_neg hc] at hx
      refine ev_steps 3 (c' := (32, [some (vR 1 l0), some (vI l1)], [vI l1, vR 79 l0])) (h' := (T, S)) rfl ?_
      obtain ⟨hg, hx⟩ := ifg hx
      refine ev_iald rfl rfl rfl hg ?_
      refine ev_steps 1 (c' := (34, [some (vR 1 l0), some (vI l1)], [vI (2 : Int32), vI (S cM_state l0 (ix l1))])) (h' := (T, S)) rfl ?_
      refine ev_icmp_ne rfl (fun hc => ?_) (fun hc => ?_)
      · rw [if_pos hc] at hx
        exact t_M_tick_37 scr l0 l1 S T hx hG
      · rw [if_neg hc] at hx
        exact t_M_tick_58 scr l0 l1 S T hx hG
  · rw [if_neg hc] at hx
    obtain ⟨x, hy, rfl⟩ := exW_some hx
    replace hx := hy
    simp only [Sum.elim_inr] at hG
    refine ev_steps 2 (c' := (115, [some (vR 1 l0), some (vI l1)], [vI (S cM_now l0 0)])) (h' := (T, S)) rfl ?_
    cases hx
    subst hG
    exact ev_ret rfl rfl
theorem t_M_tick_12 (scr : Nat × (Nat → Int32)) (l0 : Nat) (l1 : Int32) (S : St) (T : St) {x : Int32 × St} {o : Option iV × SS} (hx : f_M_tick_12 l0 (l1, S) = some x) (hG : (fun x => (some (vI x.1), (T, x.2)) = o) x) : EB scr 4 1 1 cd_M_tick (12, [some (vR 1 l0), some (vI l1)], []) (T, S) o := by
  exact iter_ind (P := fun q => EB scr 4 1 1 cd_M_tick (12, [some (vR 1 l0), some (vI q.1)], []) (T, q.2) o) (G := fun x => (some (vI x.1), (T, x.2)) = o) (fun q x hb hP  => t_M_tick_12_b scr l0 q.1 q.2 T hb hP) hx hG 
def f_M_tick (u : Nat) (S : St) : Option (Int32 × St) :=
  f_M_tick_12 u ((0 : Int32), up3 S cM_now u 0 ((S cM_now u 0) + (1 : Int32)))
theorem t_M_tick (scr : Nat × (Nat → Int32)) (u : Nat) (S T : St) {x : Int32 × St} {o : Option iV × SS} (hx : f_M_tick u S = some x) (hG : (some (vI x.1), (T, x.2)) = o) : E0 scr 5 70 [vR 1 u] (T, S) o := by
  refine ev_meth (ls := [some (vR 1 u), none]) rfl rfl rfl ?_
  unfold f_M_tick at hx
  refine ev_steps 8 (c' := (12, [some (vR 1 u), some (vI (0 : Int32))], [])) (h' := (T, up3 S cM_now u 0 ((S cM_now u 0) + (1 : Int32)))) rfl ?_
  exact t_M_tick_12 scr u (0 : Int32) (up3 S cM_now u 0 ((S cM_now u 0) + (1 : Int32))) T hx hG
-- M_about
def f_M_about_17 (S : St) : Option (Int32) :=
  some (-1 : Int32)
theorem t_M_about_17 (scr : Nat × (Nat → Int32)) (S : St) (T : St) (d0 d1 d2 : Option iV) {x : Int32} {o : Option iV × SS} (hx : f_M_about_17 S = some x) (hG : (fun x => (some (vI x), (T, S)) = o) x) : EB scr 1 1 1 cd_M_about (17, [d0, d1, d2], []) (T, S) o := by
  unfold f_M_about_17 at hx
  try dsimp only at hG
  refine ev_steps 1 (c' := (18, [_, _, _], [vI (-1 : Int32)])) (h' := (T, S)) rfl ?_
  cases hx
  subst hG
  exact ev_ret rfl rfl
def f_M_about (u : Nat) (a1 : Int32) (a2 : Int32) (S : St) : Option (Int32) :=
  if (f_M_isTwo a1) = 0 then f_M_about_17 S else (if a2 < 0 then f_M_about_17 S else (if (9 : Int32) < a2 then f_M_about_17 S else (if a2 < (4 : Int32) then (if a2 = 0 then (if inb a1 2 = true then some (S cM_state u (ix a1)) else none) else (if a2 = (1 : Int32) then (if inb a1 2 = true then some (S cM_own u (ix a1)) else none) else (if a2 = (2 : Int32) then (if inb a1 2 = true then some (S cM_other u (ix a1)) else none) else (if inb a1 2 = true then some (S cM_report u (ix a1)) else none)))) else (if a2 = (4 : Int32) then (if inb a1 2 = true then if inb a1 2 = true then some ((S cM_given u (ix a1)) - (S cM_gone u (ix a1))) else none else none) else (if a2 = (6 : Int32) then (if inb a1 2 = true then some (S cM_kept u (ix a1)) else none) else (if inb a1 2 = true then if (S cM_state u (ix a1)) = (3 : Int32) then (if a2 = (5 : Int32) then (if inb a1 2 = true then some (S cM_latest u (ix a1)) else none) else (if a2 = (7 : Int32) then (if inb a1 2 = true then some (S cM_allErrors u (ix a1)) else none) else (if a2 = (8 : Int32) then (if inb a1 2 = true then some (S cM_window u (ix a1)) else none) else (bd (f_M_pathToUse u a1 S) (fun r337 => some r337))))) else some (0 : Int32) else none))))))
theorem t_M_about (scr : Nat × (Nat → Int32)) (u : Nat) (a1 : Int32) (a2 : Int32) (S T : St) {x : Int32} {o : Option iV × SS} (hx : f_M_about u a1 a2 S = some x) (hG : (some (vI x), (T, S)) = o) : E0 scr 2 71 [vR 1 u, vI a1, vI a2] (T, S) o := by
  refine ev_meth (ls := [some (vR 1 u), some (vI a1), some (vI a2)]) rfl rfl rfl ?_
  unfold f_M_about at hx
  refine ev_steps 1 (c' := (1, [some (vR 1 u), some (vI a1), some (vI a2)], [vI a1])) (h' := (T, S)) rfl ?_
  refine ev_call rfl rfl rfl rfl rfl rfl rfl rfl rfl ((t_M_isTwo scr a1 S T rfl).mono (by decide)) ?_
  refine ev_steps 0 (c' := (4, [some (vR 1 u), some (vI a1), some (vI a2)], [vI (f_M_isTwo a1)])) (h' := (T, S)) rfl ?_
  refine ev_if_eq rfl (fun hc => ?_) (fun hc => ?_)
  · rw [if_pos hc] at hx
    exact t_M_about_17 scr S T _ _ _ hx hG
  · rw [if_neg hc] at hx
    refine ev_steps 1 (c' := (8, [some (vR 1 u), some (vI a1), some (vI a2)], [vI a2])) (h' := (T, S)) rfl ?_
    refine ev_if_lt rfl (fun hc => ?_) (fun hc => ?_)
    · rw [if_pos hc] at hx
      exact t_M_about_17 scr S T _ _ _ hx hG
    · rw [if_neg hc] at hx
      refine ev_steps 2 (c' := (14, [some (vR 1 u), some (vI a1), some (vI a2)], [vI (9 : Int32), vI a2])) (h' := (T, S)) rfl ?_
      refine ev_icmp_le rfl (fun hc => ?_) (fun hc => ?_)
      · rw [if_pos hc] at hx
        exact t_M_about_17 scr S T _ _ _ hx hG
      · rw [if_neg hc] at hx
        refine ev_steps 2 (c' := (21, [some (vR 1 u), some (vI a1), some (vI a2)], [vI (4 : Int32), vI a2])) (h' := (T, S)) rfl ?_
        refine ev_icmp_ge rfl (fun hc => ?_) (fun hc => ?_)
        · rw [if_pos hc] at hx
          refine ev_steps 1 (c' := (25, [some (vR 1 u), some (vI a1), some (vI a2)], [vI a2])) (h' := (T, S)) rfl ?_
          refine ev_if_ne rfl (fun hc => ?_) (fun hc => ?_)
          · rw [if_pos hc] at hx
            refine ev_steps 3 (c' := (33, [some (vR 1 u), some (vI a1), some (vI a2)], [vI a1, vR 79 u])) (h' := (T, S)) rfl ?_
            obtain ⟨hg, hx⟩ := ifg hx
            refine ev_iald rfl rfl rfl hg ?_
            refine ev_steps 1 (c' := (71, [some (vR 1 u), some (vI a1), some (vI a2)], [vI (S cM_state u (ix a1))])) (h' := (T, S)) rfl ?_
            cases hx
            subst hG
            exact ev_ret rfl rfl
          · rw [if_neg hc] at hx
            refine ev_steps 2 (c' := (39, [some (vR 1 u), some (vI a1), some (vI a2)], [vI (1 : Int32), vI a2])) (h' := (T, S)) rfl ?_
            refine ev_icmp_ne rfl (fun hc => ?_) (fun hc => ?_)
            · rw [if_pos hc] at hx
              refine ev_steps 3 (c' := (47, [some (vR 1 u), some (vI a1), some (vI a2)], [vI a1, vR 80 u])) (h' := (T, S)) rfl ?_
              obtain ⟨hg, hx⟩ := ifg hx
              refine ev_iald rfl rfl rfl hg ?_
              refine ev_steps 1 (c' := (71, [some (vR 1 u), some (vI a1), some (vI a2)], [vI (S cM_own u (ix a1))])) (h' := (T, S)) rfl ?_
              cases hx
              subst hG
              exact ev_ret rfl rfl
            · rw [if_neg hc] at hx
              refine ev_steps 2 (c' := (53, [some (vR 1 u), some (vI a1), some (vI a2)], [vI (2 : Int32), vI a2])) (h' := (T, S)) rfl ?_
              refine ev_icmp_ne rfl (fun hc => ?_) (fun hc => ?_)
              · rw [if_pos hc] at hx
                refine ev_steps 3 (c' := (61, [some (vR 1 u), some (vI a1), some (vI a2)], [vI a1, vR 81 u])) (h' := (T, S)) rfl ?_
                obtain ⟨hg, hx⟩ := ifg hx
                refine ev_iald rfl rfl rfl hg ?_
                refine ev_steps 1 (c' := (71, [some (vR 1 u), some (vI a1), some (vI a2)], [vI (S cM_other u (ix a1))])) (h' := (T, S)) rfl ?_
                cases hx
                subst hG
                exact ev_ret rfl rfl
              · rw [if_neg hc] at hx
                refine ev_steps 3 (c' := (70, [some (vR 1 u), some (vI a1), some (vI a2)], [vI a1, vR 82 u])) (h' := (T, S)) rfl ?_
                obtain ⟨hg, hx⟩ := ifg hx
                refine ev_iald rfl rfl rfl hg ?_
                refine ev_steps 0 (c' := (71, [some (vR 1 u), some (vI a1), some (vI a2)], [vI (S cM_report u (ix a1))])) (h' := (T, S)) rfl ?_
                cases hx
                subst hG
                exact ev_ret rfl rfl
        · rw [if_neg hc] at hx
          refine ev_steps 2 (c' := (74, [some (vR 1 u), some (vI a1), some (vI a2)], [vI (4 : Int32), vI a2])) (h' := (T, S)) rfl ?_
          refine ev_icmp_ne rfl (fun hc => ?_) (fun hc => ?_)
          · rw [if_pos hc] at hx
            refine ev_steps 3 (c' := (82, [some (vR 1 u), some (vI a1), some (vI a2)], [vI a1, vR 101 u])) (h' := (T, S)) rfl ?_
            obtain ⟨hg, hx⟩ := ifg hx
            refine ev_iald rfl rfl rfl hg ?_
            refine ev_steps 3 (c' := (88, [some (vR 1 u), some (vI a1), some (vI a2)], [vI a1, vR 100 u, vI (S cM_given u (ix a1))])) (h' := (T, S)) rfl ?_
            obtain ⟨hg, hx⟩ := ifg hx
            refine ev_iald rfl rfl rfl hg ?_
            refine ev_steps 1 (c' := (90, [some (vR 1 u), some (vI a1), some (vI a2)], [vI ((S cM_given u (ix a1)) - (S cM_gone u (ix a1)))])) (h' := (T, S)) rfl ?_
            cases hx
            subst hG
            exact ev_ret rfl rfl
          · rw [if_neg hc] at hx
            refine ev_steps 2 (c' := (94, [some (vR 1 u), some (vI a1), some (vI a2)], [vI (6 : Int32), vI a2])) (h' := (T, S)) rfl ?_
            refine ev_icmp_ne rfl (fun hc => ?_) (fun hc => ?_)
            · rw [if_pos hc] at hx
              refine ev_steps 3 (c' := (102, [some (vR 1 u), some (vI a1), some (vI a2)], [vI a1, vR 119 u])) (h' := (T, S)) rfl ?_
              obtain ⟨hg, hx⟩ := ifg hx
              refine ev_iald rfl rfl rfl hg ?_
              refine ev_steps 0 (c' := (103, [some (vR 1 u), some (vI a1), some (vI a2)], [vI (S cM_kept u (ix a1))])) (h' := (T, S)) rfl ?_
              cases hx
              subst hG
              exact ev_ret rfl rfl
            · rw [if_neg hc] at hx
              refine ev_steps 3 (c' := (109, [some (vR 1 u), some (vI a1), some (vI a2)], [vI a1, vR 79 u])) (h' := (T, S)) rfl ?_
              obtain ⟨hg, hx⟩ := ifg hx
              refine ev_iald rfl rfl rfl hg ?_
              refine ev_steps 1 (c' := (111, [some (vR 1 u), some (vI a1), some (vI a2)], [vI (3 : Int32), vI (S cM_state u (ix a1))])) (h' := (T, S)) rfl ?_
              refine ev_icmp_eq rfl (fun hc => ?_) (fun hc => ?_)
              · rw [if_pos hc] at hx
                refine ev_steps 2 (c' := (118, [some (vR 1 u), some (vI a1), some (vI a2)], [vI (5 : Int32), vI a2])) (h' := (T, S)) rfl ?_
                refine ev_icmp_ne rfl (fun hc => ?_) (fun hc => ?_)
                · rw [if_pos hc] at hx
                  refine ev_steps 3 (c' := (126, [some (vR 1 u), some (vI a1), some (vI a2)], [vI a1, vR 111 u])) (h' := (T, S)) rfl ?_
                  obtain ⟨hg, hx⟩ := ifg hx
                  refine ev_iald rfl rfl rfl hg ?_
                  refine ev_steps 1 (c' := (165, [some (vR 1 u), some (vI a1), some (vI a2)], [vI (S cM_latest u (ix a1))])) (h' := (T, S)) rfl ?_
                  cases hx
                  subst hG
                  exact ev_ret rfl rfl
                · rw [if_neg hc] at hx
                  refine ev_steps 2 (c' := (133, [some (vR 1 u), some (vI a1), some (vI a2)], [vI (7 : Int32), vI a2])) (h' := (T, S)) rfl ?_
                  refine ev_icmp_ne rfl (fun hc => ?_) (fun hc => ?_)
                  · rw [if_pos hc] at hx
                    refine ev_steps 3 (c' := (141, [some (vR 1 u), some (vI a1), some (vI a2)], [vI a1, vR 89 u])) (h' := (T, S)) rfl ?_
                    obtain ⟨hg, hx⟩ := ifg hx
                    refine ev_iald rfl rfl rfl hg ?_
                    refine ev_steps 1 (c' := (165, [some (vR 1 u), some (vI a1), some (vI a2)], [vI (S cM_allErrors u (ix a1))])) (h' := (T, S)) rfl ?_
                    cases hx
                    subst hG
                    exact ev_ret rfl rfl
                  · rw [if_neg hc] at hx
                    refine ev_steps 2 (c' := (148, [some (vR 1 u), some (vI a1), some (vI a2)], [vI (8 : Int32), vI a2])) (h' := (T, S)) rfl ?_
                    refine ev_icmp_ne rfl (fun hc => ?_) (fun hc => ?_)
                    · rw [if_pos hc] at hx
                      refine ev_steps 3 (c' := (156, [some (vR 1 u), some (vI a1), some (vI a2)], [vI a1, vR 90 u])) (h' := (T, S)) rfl ?_
                      obtain ⟨hg, hx⟩ := ifg hx
                      refine ev_iald rfl rfl rfl hg ?_
                      refine ev_steps 1 (c' := (165, [some (vR 1 u), some (vI a1), some (vI a2)], [vI (S cM_window u (ix a1))])) (h' := (T, S)) rfl ?_
                      cases hx
                      subst hG
                      exact ev_ret rfl rfl
                    · rw [if_neg hc] at hx
                      refine ev_steps 2 (c' := (162, [some (vR 1 u), some (vI a1), some (vI a2)], [vI a1, vR 1 u])) (h' := (T, S)) rfl ?_
                      obtain ⟨r337, hc, hx⟩ := bd_some hx
                      refine ev_call rfl rfl rfl rfl rfl rfl rfl rfl rfl ((t_M_pathToUse scr u a1 S T hc rfl).mono (by decide)) ?_
                      refine ev_steps 0 (c' := (165, [some (vR 1 u), some (vI a1), some (vI a2)], [vI r337])) (h' := (T, S)) rfl ?_
                      cases hx
                      subst hG
                      exact ev_ret rfl rfl
              · rw [if_neg hc] at hx
                refine ev_steps 1 (c' := (115, [some (vR 1 u), some (vI a1), some (vI a2)], [vI (0 : Int32)])) (h' := (T, S)) rfl ?_
                cases hx
                subst hG
                exact ev_ret rfl rfl
-- M_path
def f_M_path_24 (S : St) : Option (Int32) :=
  some (-1 : Int32)
theorem t_M_path_24 (scr : Nat × (Nat → Int32)) (S : St) (T : St) (d0 d1 d2 d3 d4 : Option iV) {x : Int32} {o : Option iV × SS} (hx : f_M_path_24 S = some x) (hG : (fun x => (some (vI x), (T, S)) = o) x) : EB scr 1 1 1 cd_M_path (24, [d0, d1, d2, d3, d4], []) (T, S) o := by
  unfold f_M_path_24 at hx
  try dsimp only at hG
  refine ev_steps 1 (c' := (25, [_, _, _, _, _], [vI (-1 : Int32)])) (h' := (T, S)) rfl ?_
  cases hx
  subst hG
  exact ev_ret rfl rfl
def f_M_path_152 (S : St) : Option (Int32) :=
  some (0 : Int32)
theorem t_M_path_152 (scr : Nat × (Nat → Int32)) (S : St) (T : St) (d0 d1 d2 d3 d4 : Option iV) {x : Int32} {o : Option iV × SS} (hx : f_M_path_152 S = some x) (hG : (fun x => (some (vI x), (T, S)) = o) x) : EB scr 1 1 1 cd_M_path (152, [d0, d1, d2, d3, d4], []) (T, S) o := by
  unfold f_M_path_152 at hx
  try dsimp only at hG
  refine ev_steps 1 (c' := (153, [_, _, _, _, _], [vI (0 : Int32)])) (h' := (T, S)) rfl ?_
  cases hx
  subst hG
  exact ev_ret rfl rfl
def f_M_path_148 (S : St) : Option (Int32) :=
  some (1 : Int32)
theorem t_M_path_148 (scr : Nat × (Nat → Int32)) (S : St) (T : St) (d0 d1 d2 d3 d4 : Option iV) {x : Int32} {o : Option iV × SS} (hx : f_M_path_148 S = some x) (hG : (fun x => (some (vI x), (T, S)) = o) x) : EB scr 1 1 1 cd_M_path (148, [d0, d1, d2, d3, d4], []) (T, S) o := by
  unfold f_M_path_148 at hx
  try dsimp only at hG
  refine ev_steps 2 (c' := (153, [_, _, _, _, _], [vI (1 : Int32)])) (h' := (T, S)) rfl ?_
  cases hx
  subst hG
  exact ev_ret rfl rfl
def f_M_path (u : Nat) (a1 : Int32) (a2 : Int32) (a3 : Int32) (S : St) : Option (Int32) :=
  if (f_M_isTwo a1) = 0 then f_M_path_24 S else (if (f_M_isTwo a2) = 0 then f_M_path_24 S else (if a3 < 0 then f_M_path_24 S else (if (6 : Int32) < a3 then f_M_path_24 S else (if inb a1 2 = true then if (S cM_state u (ix a1)) = (3 : Int32) then (if a3 < (3 : Int32) then (if a3 = 0 then (if inb (((2 : Int32) * a1) + a2) 4 = true then some (S cM_rate u (ix (((2 : Int32) * a1) + a2))) else none) else (if a3 = (1 : Int32) then (if inb (((2 : Int32) * a1) + a2) 4 = true then some (S cM_wait u (ix (((2 : Int32) * a1) + a2))) else none) else (if inb (((2 : Int32) * a1) + a2) 4 = true then some (S cM_errors u (ix (((2 : Int32) * a1) + a2))) else none))) else (if a3 = (4 : Int32) then (bd (f_M_count u a1 (2 : Int32) a2 S) (fun r339 => some r339)) else (if a3 = (3 : Int32) then (if inb (((2 : Int32) * a1) + a2) 4 = true then if (nz (S cM_active u (ix (((2 : Int32) * a1) + a2)))) = 0 then f_M_path_152 S else f_M_path_148 S else none) else (if a3 = (5 : Int32) then (if inb (((2 : Int32) * a1) + a2) 4 = true then if (nz (S cM_runs u (ix (((2 : Int32) * a1) + a2)))) = 0 then f_M_path_152 S else f_M_path_148 S else none) else (if inb (((2 : Int32) * a1) + a2) 4 = true then if (nz (S cM_beating u (ix (((2 : Int32) * a1) + a2)))) = 0 then f_M_path_152 S else f_M_path_148 S else none))))) else some (0 : Int32) else none))))
theorem t_M_path (scr : Nat × (Nat → Int32)) (u : Nat) (a1 : Int32) (a2 : Int32) (a3 : Int32) (S T : St) {x : Int32} {o : Option iV × SS} (hx : f_M_path u a1 a2 a3 S = some x) (hG : (some (vI x), (T, S)) = o) : E0 scr 2 72 [vR 1 u, vI a1, vI a2, vI a3] (T, S) o := by
  refine ev_meth (ls := [some (vR 1 u), some (vI a1), some (vI a2), some (vI a3), none]) rfl rfl rfl ?_
  unfold f_M_path at hx
  refine ev_steps 1 (c' := (1, [some (vR 1 u), some (vI a1), some (vI a2), some (vI a3), none], [vI a1])) (h' := (T, S)) rfl ?_
  refine ev_call rfl rfl rfl rfl rfl rfl rfl rfl rfl ((t_M_isTwo scr a1 S T rfl).mono (by decide)) ?_
  refine ev_steps 0 (c' := (4, [some (vR 1 u), some (vI a1), some (vI a2), some (vI a3), none], [vI (f_M_isTwo a1)])) (h' := (T, S)) rfl ?_
  refine ev_if_eq rfl (fun hc => ?_) (fun hc => ?_)
  · rw [if_pos hc] at hx
    exact t_M_path_24 scr S T _ _ _ _ _ hx hG
  · rw [if_neg hc] at hx
    refine ev_steps 1 (c' := (8, [some (vR 1 u), some (vI a1), some (vI a2), some (vI a3), none], [vI a2])) (h' := (T, S)) rfl ?_
    refine ev_call rfl rfl rfl rfl rfl rfl rfl rfl rfl ((t_M_isTwo scr a2 S T rfl).mono (by decide)) ?_
    refine ev_steps 0 (c' := (11, [some (vR 1 u), some (vI a1), some (vI a2), some (vI a3), none], [vI (f_M_isTwo a2)])) (h' := (T, S)) rfl ?_
    refine ev_if_eq rfl (fun hc => ?_) (fun hc => ?_)
    · rw [if_pos hc] at hx
      exact t_M_path_24 scr S T _ _ _ _ _ hx hG
    · rw [if_neg hc] at hx
      refine ev_steps 1 (c' := (15, [some (vR 1 u), some (vI a1), some (vI a2), some (vI a3), none], [vI a3])) (h' := (T, S)) rfl ?_
      refine ev_if_lt rfl (fun hc => ?_) (fun hc => ?_)
      · rw [if_pos hc] at hx
        exact t_M_path_24 scr S T _ _ _ _ _ hx hG
      · rw [if_neg hc] at hx
        refine ev_steps 2 (c' := (21, [some (vR 1 u), some (vI a1), some (vI a2), some (vI a3), none], [vI (6 : Int32), vI a3])) (h' := (T, S)) rfl ?_
        refine ev_icmp_le rfl (fun hc => ?_) (fun hc => ?_)
        · rw [if_pos hc] at hx
          exact t_M_path_24 scr S T _ _ _ _ _ hx hG
        · rw [if_neg hc] at hx
          refine ev_steps 9 (c' := (38, [some (vR 1 u), some (vI a1), some (vI a2), some (vI a3), some (vI (((2 : Int32) * a1) + a2))], [vI a1, vR 79 u])) (h' := (T, S)) rfl ?_
          obtain ⟨hg, hx⟩ := ifg hx
          refine ev_iald rfl rfl rfl hg ?_
          refine ev_steps 1 (c' := (40, [some (vR 1 u), some (vI a1), some (vI a2), some (vI a3), some (vI (((2 : Int32) * a1) + a2))], [vI (3 : Int32), vI (S cM_state u (ix a1))])) (h' := (T, S)) rfl ?_
          refine ev_icmp_eq rfl (fun hc => ?_) (fun hc => ?_)
          · rw [if_pos hc] at hx
            refine ev_steps 2 (c' := (47, [some (vR 1 u), some (vI a1), some (vI a2), some (vI a3), some (vI (((2 : Int32) * a1) + a2))], [vI (3 : Int32), vI a3])) (h' := (T, S)) rfl ?_
            refine ev_icmp_ge rfl (fun hc => ?_) (fun hc => ?_)
            · rw [if_pos hc] at hx
              refine ev_steps 1 (c' := (51, [some (vR 1 u), some (vI a1), some (vI a2), some (vI a3), some (vI (((2 : Int32) * a1) + a2))], [vI a3])) (h' := (T, S)) rfl ?_
              refine ev_if_ne rfl (fun hc => ?_) (fun hc => ?_)
              · rw [if_pos hc] at hx
                refine ev_steps 3 (c' := (60, [some (vR 1 u), some (vI a1), some (vI a2), some (vI a3), some (vI (((2 : Int32) * a1) + a2))], [vI (((2 : Int32) * a1) + a2), vR 92 u])) (h' := (T, S)) rfl ?_
                obtain ⟨hg, hx⟩ := ifg hx
                refine ev_iald rfl rfl rfl hg ?_
                refine ev_steps 1 (c' := (86, [some (vR 1 u), some (vI a1), some (vI a2), some (vI a3), some (vI (((2 : Int32) * a1) + a2))], [vI (S cM_rate u (ix (((2 : Int32) * a1) + a2)))])) (h' := (T, S)) rfl ?_
                cases hx
                subst hG
                exact ev_ret rfl rfl
              · rw [if_neg hc] at hx
                refine ev_steps 2 (c' := (66, [some (vR 1 u), some (vI a1), some (vI a2), some (vI a3), some (vI (((2 : Int32) * a1) + a2))], [vI (1 : Int32), vI a3])) (h' := (T, S)) rfl ?_
                refine ev_icmp_ne rfl (fun hc => ?_) (fun hc => ?_)
                · rw [if_pos hc] at hx
                  refine ev_steps 3 (c' := (75, [some (vR 1 u), some (vI a1), some (vI a2), some (vI a3), some (vI (((2 : Int32) * a1) + a2))], [vI (((2 : Int32) * a1) + a2), vR 93 u])) (h' := (T, S)) rfl ?_
                  obtain ⟨hg, hx⟩ := ifg hx
                  refine ev_iald rfl rfl rfl hg ?_
                  refine ev_steps 1 (c' := (86, [some (vR 1 u), some (vI a1), some (vI a2), some (vI a3), some (vI (((2 : Int32) * a1) + a2))], [vI (S cM_wait u (ix (((2 : Int32) * a1) + a2)))])) (h' := (T, S)) rfl ?_
                  cases hx
                  subst hG
                  exact ev_ret rfl rfl
                · rw [if_neg hc] at hx
                  refine ev_steps 3 (c' := (85, [some (vR 1 u), some (vI a1), some (vI a2), some (vI a3), some (vI (((2 : Int32) * a1) + a2))], [vI (((2 : Int32) * a1) + a2), vR 94 u])) (h' := (T, S)) rfl ?_
                  obtain ⟨hg, hx⟩ := ifg hx
                  refine ev_iald rfl rfl rfl hg ?_
                  refine ev_steps 0 (c' := (86, [some (vR 1 u), some (vI a1), some (vI a2), some (vI a3), some (vI (((2 : Int32) * a1) + a2))], [vI (S cM_errors u (ix (((2 : Int32) * a1) + a2)))])) (h' := (T, S)) rfl ?_
                  cases hx
                  subst hG
                  exact ev_ret rfl rfl
            · rw [if_neg hc] at hx
              refine ev_steps 2 (c' := (89, [some (vR 1 u), some (vI a1), some (vI a2), some (vI a3), some (vI (((2 : Int32) * a1) + a2))], [vI (4 : Int32), vI a3])) (h' := (T, S)) rfl ?_
              refine ev_icmp_ne rfl (fun hc => ?_) (fun hc => ?_)
              · rw [if_pos hc] at hx
                refine ev_steps 4 (c' := (96, [some (vR 1 u), some (vI a1), some (vI a2), some (vI a3), some (vI (((2 : Int32) * a1) + a2))], [vI a2, vI (2 : Int32), vI a1, vR 1 u])) (h' := (T, S)) rfl ?_
                obtain ⟨r339, hc, hx⟩ := bd_some hx
                refine ev_call rfl rfl rfl rfl rfl rfl rfl rfl rfl ((t_M_count scr u a1 (2 : Int32) a2 S T hc rfl).mono (by decide)) ?_
                refine ev_steps 1 (c' := (153, [some (vR 1 u), some (vI a1), some (vI a2), some (vI a3), some (vI (((2 : Int32) * a1) + a2))], [vI r339])) (h' := (T, S)) rfl ?_
                cases hx
                subst hG
                exact ev_ret rfl rfl
              · rw [if_neg hc] at hx
                refine ev_steps 2 (c' := (104, [some (vR 1 u), some (vI a1), some (vI a2), some (vI a3), some (vI (((2 : Int32) * a1) + a2))], [vI (3 : Int32), vI a3])) (h' := (T, S)) rfl ?_
                refine ev_icmp_ne rfl (fun hc => ?_) (fun hc => ?_)
                · rw [if_pos hc] at hx
                  refine ev_steps 3 (c' := (113, [some (vR 1 u), some (vI a1), some (vI a2), some (vI a3), some (vI (((2 : Int32) * a1) + a2))], [vI (((2 : Int32) * a1) + a2), vR 91 u])) (h' := (T, S)) rfl ?_
                  obtain ⟨hg, hx⟩ := ifg hx
                  refine ev_bald rfl rfl hg ?_
                  refine ev_steps 0 (c' := (114, [some (vR 1 u), some (vI a1), some (vI a2), some (vI a3), some (vI (((2 : Int32) * a1) + a2))], [vI (nz (S cM_active u (ix (((2 : Int32) * a1) + a2))))])) (h' := (T, S)) rfl ?_
                  refine ev_if_eq rfl (fun hc => ?_) (fun hc => ?_)
                  · rw [if_pos hc] at hx
                    exact t_M_path_152 scr S T _ _ _ _ _ hx hG
                  · rw [if_neg hc] at hx
                    refine ev_steps 1 (c' := (148, [some (vR 1 u), some (vI a1), some (vI a2), some (vI a3), some (vI (((2 : Int32) * a1) + a2))], [])) (h' := (T, S)) rfl ?_
                    exact t_M_path_148 scr S T _ _ _ _ _ hx hG
                · rw [if_neg hc] at hx
                  refine ev_steps 2 (c' := (122, [some (vR 1 u), some (vI a1), some (vI a2), some (vI a3), some (vI (((2 : Int32) * a1) + a2))], [vI (5 : Int32), vI a3])) (h' := (T, S)) rfl ?_
                  refine ev_icmp_ne rfl (fun hc => ?_) (fun hc => ?_)
                  · rw [if_pos hc] at hx
                    refine ev_steps 3 (c' := (131, [some (vR 1 u), some (vI a1), some (vI a2), some (vI a3), some (vI (((2 : Int32) * a1) + a2))], [vI (((2 : Int32) * a1) + a2), vR 95 u])) (h' := (T, S)) rfl ?_
                    obtain ⟨hg, hx⟩ := ifg hx
                    refine ev_bald rfl rfl hg ?_
                    refine ev_steps 0 (c' := (132, [some (vR 1 u), some (vI a1), some (vI a2), some (vI a3), some (vI (((2 : Int32) * a1) + a2))], [vI (nz (S cM_runs u (ix (((2 : Int32) * a1) + a2))))])) (h' := (T, S)) rfl ?_
                    refine ev_if_eq rfl (fun hc => ?_) (fun hc => ?_)
                    · rw [if_pos hc] at hx
                      exact t_M_path_152 scr S T _ _ _ _ _ hx hG
                    · rw [if_neg hc] at hx
                      refine ev_steps 1 (c' := (148, [some (vR 1 u), some (vI a1), some (vI a2), some (vI a3), some (vI (((2 : Int32) * a1) + a2))], [])) (h' := (T, S)) rfl ?_
                      exact t_M_path_148 scr S T _ _ _ _ _ hx hG
                  · rw [if_neg hc] at hx
                    refine ev_steps 3 (c' := (144, [some (vR 1 u), some (vI a1), some (vI a2), some (vI a3), some (vI (((2 : Int32) * a1) + a2))], [vI (((2 : Int32) * a1) + a2), vR 97 u])) (h' := (T, S)) rfl ?_
                    obtain ⟨hg, hx⟩ := ifg hx
                    refine ev_bald rfl rfl hg ?_
                    refine ev_steps 0 (c' := (145, [some (vR 1 u), some (vI a1), some (vI a2), some (vI a3), some (vI (((2 : Int32) * a1) + a2))], [vI (nz (S cM_beating u (ix (((2 : Int32) * a1) + a2))))])) (h' := (T, S)) rfl ?_
                    refine ev_if_eq rfl (fun hc => ?_) (fun hc => ?_)
                    · rw [if_pos hc] at hx
                      exact t_M_path_152 scr S T _ _ _ _ _ hx hG
                    · rw [if_neg hc] at hx
                      exact t_M_path_148 scr S T _ _ _ _ _ hx hG
          · rw [if_neg hc] at hx
            refine ev_steps 1 (c' := (44, [some (vR 1 u), some (vI a1), some (vI a2), some (vI a3), some (vI (((2 : Int32) * a1) + a2))], [vI (0 : Int32)])) (h' := (T, S)) rfl ?_
            cases hx
            subst hG
            exact ev_ret rfl rfl
-- M_word
def f_M_word_44 (S : St) : Option (Int32) :=
  some (0 : Int32)
theorem t_M_word_44 (scr : Nat × (Nat → Int32)) (S : St) (T : St) (d0 d1 d2 : Option iV) {x : Int32} {o : Option iV × SS} (hx : f_M_word_44 S = some x) (hG : (fun x => (some (vI x), (T, S)) = o) x) : EB scr 1 1 1 cd_M_word (44, [d0, d1, d2], []) (T, S) o := by
  unfold f_M_word_44 at hx
  try dsimp only at hG
  refine ev_steps 1 (c' := (45, [_, _, _], [vI (0 : Int32)])) (h' := (T, S)) rfl ?_
  cases hx
  subst hG
  exact ev_ret rfl rfl
def f_M_word (u : Nat) (a1 : Int32) (a2 : Int32) (S : St) : Option (Int32) :=
  if (f_M_isTwo a1) = 0 then f_M_word_44 S else (if inb a1 2 = true then if (S cM_gone u (ix a1)) < a2 then (if inb a1 2 = true then if (S cM_given u (ix a1)) < a2 then f_M_word_44 S else (if inb (((32 : Int32) * a1) + (iRem a2 (32 : Int32))) 64 = true then some (S cM_word u (ix (((32 : Int32) * a1) + (iRem a2 (32 : Int32))))) else none) else none) else f_M_word_44 S else none)
theorem t_M_word (scr : Nat × (Nat → Int32)) (u : Nat) (a1 : Int32) (a2 : Int32) (S T : St) {x : Int32} {o : Option iV × SS} (hx : f_M_word u a1 a2 S = some x) (hG : (some (vI x), (T, S)) = o) : E0 scr 2 73 [vR 1 u, vI a1, vI a2] (T, S) o := by
  refine ev_meth (ls := [some (vR 1 u), some (vI a1), some (vI a2)]) rfl rfl rfl ?_
  unfold f_M_word at hx
  refine ev_steps 1 (c' := (1, [some (vR 1 u), some (vI a1), some (vI a2)], [vI a1])) (h' := (T, S)) rfl ?_
  refine ev_call rfl rfl rfl rfl rfl rfl rfl rfl rfl ((t_M_isTwo scr a1 S T rfl).mono (by decide)) ?_
  refine ev_steps 0 (c' := (4, [some (vR 1 u), some (vI a1), some (vI a2)], [vI (f_M_isTwo a1)])) (h' := (T, S)) rfl ?_
  refine ev_if_eq rfl (fun hc => ?_) (fun hc => ?_)
  · rw [if_pos hc] at hx
    exact t_M_word_44 scr S T _ _ _ hx hG
  · rw [if_neg hc] at hx
    refine ev_steps 4 (c' := (13, [some (vR 1 u), some (vI a1), some (vI a2)], [vI a1, vR 100 u, vI a2])) (h' := (T, S)) rfl ?_
    obtain ⟨hg, hx⟩ := ifg hx
    refine ev_iald rfl rfl rfl hg ?_
    refine ev_steps 0 (c' := (14, [some (vR 1 u), some (vI a1), some (vI a2)], [vI (S cM_gone u (ix a1)), vI a2])) (h' := (T, S)) rfl ?_
    refine ev_icmp_le rfl (fun hc => ?_) (fun hc => ?_)
    · rw [if_pos hc] at hx
      refine ev_steps 4 (c' := (23, [some (vR 1 u), some (vI a1), some (vI a2)], [vI a1, vR 101 u, vI a2])) (h' := (T, S)) rfl ?_
      obtain ⟨hg, hx⟩ := ifg hx
      refine ev_iald rfl rfl rfl hg ?_
      refine ev_steps 0 (c' := (24, [some (vR 1 u), some (vI a1), some (vI a2)], [vI (S cM_given u (ix a1)), vI a2])) (h' := (T, S)) rfl ?_
      refine ev_icmp_gt rfl (fun hc => ?_) (fun hc => ?_)
      · rw [if_pos hc] at hx
        exact t_M_word_44 scr S T _ _ _ hx hG
      · rw [if_neg hc] at hx
        refine ev_steps 9 (c' := (40, [some (vR 1 u), some (vI a1), some (vI a2)], [vI (((32 : Int32) * a1) + (iRem a2 (32 : Int32))), vR 103 u])) (h' := (T, S)) rfl ?_
        obtain ⟨hg, hx⟩ := ifg hx
        refine ev_iald rfl rfl rfl hg ?_
        refine ev_steps 1 (c' := (45, [some (vR 1 u), some (vI a1), some (vI a2)], [vI (S cM_word u (ix (((32 : Int32) * a1) + (iRem a2 (32 : Int32)))))])) (h' := (T, S)) rfl ?_
        cases hx
        subst hG
        exact ev_ret rfl rfl
    · rw [if_neg hc] at hx
      exact t_M_word_44 scr S T _ _ _ hx hG
