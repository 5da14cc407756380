/-! Methods as functions on the store, printed by a program. -/
-- M_sack
def f_M_sack_439 (l0 : Nat) (l1 : Int32) (l4 : Int32) (S : St) : Option ((Int32 × St) ⊕ (St)) :=
  some (Sum.inl (l4 + (1 : Int32), S))
set_option maxRecDepth 100000 in
theorem t_M_sack_439 (scr : Nat × (Nat → Int32)) (l0 : Nat) (l1 : Int32) (l4 : Int32) (S : St) (T : St) (d2 d3 d5 d6 d7 : Option iV) {x : (Int32 × St) ⊕ (St)} {o : Option iV × SS} (hx : f_M_sack_439 l0 l1 l4 S = some x) (hG : (Sum.elim (fun q => ∀ d2 d3 d5 d6 d7 : Option iV, EB scr 2 1 0 cd_M_sack (374, [some (vR 1 l0), some (vI l1), d2, d3, some (vI q.1), d5, d6, d7], []) (T, q.2) o) (fun x => (none, (T, x)) = o)) x) : EB scr 2 1 0 cd_M_sack (439, [some (vR 1 l0), some (vI l1), d2, d3, some (vI l4), d5, d6, d7], []) (T, S) o := by
  unfold f_M_sack_439 at hx
  try dsimp only at hG
  refine ev_steps 2 (c' := (374, [some (vR 1 l0), some (vI l1), _, _, some (vI (l4 + (1 : Int32))), _, _, _], [])) (h' := (T, S)) rfl ?_
  cases hx
  exact hG _ _ _ _ _
def f_M_sack_374_b (l0 : Nat) (l1 : Int32)  : (Int32 × St) → Option ((Int32 × St) ⊕ (St))
  | (l4, S) => if l4 < (((2 : Int32) * l1) + (2 : Int32)) then (bd (f_M_count l0 l1 (2 : Int32) (l4 - ((2 : Int32) * l1)) S) (fun r279 => if r279 = 0 then (if inb l4 4 = true then f_M_sack_439 l0 l1 l4 (up3 S cM_runs l0 (ix l4) (0 : Int32)) else none) else (if inb l4 4 = true then if (nz (S cM_good l0 (ix l4))) = 0 then f_M_sack_439 l0 l1 l4 S else (if inb l4 4 = true then if inb l4 4 = true then f_M_sack_439 l0 l1 l4 (up3 S cM_timer l0 (ix l4) ((S cM_now l0 0) + (S cM_wait l0 (ix l4)))) else none else none) else none))) else exW (bd (f_M_sendWhatMay l0 l1 S) (fun S278 => some S278))
def f_M_sack_374 (l0 : Nat) (l1 : Int32)  (q : Int32 × St) : Option (St) := iter (f_M_sack_374_b l0 l1) 4096 q
set_option maxRecDepth 100000 in
theorem t_M_sack_374_b (scr : Nat × (Nat → Int32)) (l0 : Nat) (l1 : Int32) (l4 : Int32) (S : St) (T : St) (d2 d3 d5 d6 d7 : Option iV) {x : (Int32 × St) ⊕ (St)} {o : Option iV × SS} (hx : f_M_sack_374_b l0 l1 (l4, S) = some x) (hG : (Sum.elim (fun q => ∀ d2 d3 d5 d6 d7 : Option iV, EB scr 2 1 0 cd_M_sack (374, [some (vR 1 l0), some (vI l1), d2, d3, some (vI q.1), d5, d6, d7], []) (T, q.2) o) (fun x => (none, (T, x)) = o)) x) : EB scr 2 1 0 cd_M_sack (374, [some (vR 1 l0), some (vI l1), d2, d3, some (vI l4), d5, d6, d7], []) (T, S) o := by
  unfold f_M_sack_374_b at hx
  dsimp only at hx
  refine ev_steps 6 (c' := (381, [some (vR 1 l0), some (vI l1), _, _, some (vI l4), _, _, _], [vI (((2 : Int32) * l1) + (2 : Int32)), vI l4])) (h' := (T, S)) rfl ?_
  refine ev_icmp_ge rfl (fun hc => ?_) (fun hc => ?_)
  · rw [if_pos hc] at hx
    refine ev_steps 8 (c' := (393, [some (vR 1 l0), some (vI l1), _, _, some (vI l4), _, _, _], [vI (l4 - ((2 : Int32) * l1)), vI (2 : Int32), vI l1, vR 1 l0])) (h' := (T, S)) rfl ?_
    obtain ⟨r279, hc, hx⟩ := bd_some hx
    refine ev_call rfl rfl rfl rfl rfl rfl rfl rfl rfl ((t_M_count scr l0 l1 (2 : Int32) (l4 - ((2 : Int32) * l1)) S T hc rfl).mono (by decide)) ?_
    refine ev_steps 0 (c' := (396, [some (vR 1 l0), some (vI l1), _, _, some (vI l4), _, _, _], [vI r279])) (h' := (T, S)) rfl ?_
    refine ev_if_ne rfl (fun hc => ?_) (fun hc => ?_)
    · rw [if_pos hc] at hx
      refine ev_steps 4 (c' := (406, [some (vR 1 l0), some (vI l1), _, _, some (vI l4), _, _, _], [vI (0 : Int32), vI l4, vR 95 l0])) (h' := (T, S)) rfl ?_
      obtain ⟨hg, hx⟩ := ifg hx
      refine ev_bast rfl rfl hg rfl ?_
      refine ev_steps 1 (c' := (439, [some (vR 1 l0), some (vI l1), _, _, some (vI l4), _, _, _], [])) (h' := (T, up3 S cM_runs l0 (ix l4) (0 : Int32))) rfl ?_
      exact t_M_sack_439 scr l0 l1 l4 (up3 S cM_runs l0 (ix l4) (0 : Int32)) T _ _ _ _ _ hx hG
    · rw [if_neg hc] at hx
      refine ev_steps 3 (c' := (416, [some (vR 1 l0), some (vI l1), _, _, some (vI l4), _, _, _], [vI l4, vR 99 l0])) (h' := (T, S)) rfl ?_
      obtain ⟨hg, hx⟩ := ifg hx
      refine ev_bald rfl rfl hg ?_
      refine ev_steps 0 (c' := (417, [some (vR 1 l0), some (vI l1), _, _, some (vI l4), _, _, _], [vI (nz (S cM_good l0 (ix l4)))])) (h' := (T, S)) rfl ?_
      refine ev_if_eq rfl (fun hc => ?_) (fun hc => ?_)
      · rw [if_pos hc] at hx
        exact t_M_sack_439 scr l0 l1 l4 S T _ _ _ _ _ hx hG
      · rw [if_neg hc] at hx
        refine ev_steps 8 (c' := (436, [some (vR 1 l0), some (vI l1), _, _, some (vI l4), _, _, _], [vI l4, vR 93 l0, vI (S cM_now l0 0), vI l4, vR 96 l0])) (h' := (T, S)) rfl ?_
        obtain ⟨hg, hx⟩ := ifg hx
        refine ev_iald rfl rfl rfl hg ?_
        refine ev_steps 1 (c' := (438, [some (vR 1 l0), some (vI l1), _, _, some (vI l4), _, _, _], [vI ((S cM_now l0 0) + (S cM_wait l0 (ix l4))), vI l4, vR 96 l0])) (h' := (T, S)) rfl ?_
        obtain ⟨hg, hx⟩ := ifg hx
        refine ev_iast rfl rfl hg ?_
        refine ev_steps 0 (c' := (439, [some (vR 1 l0), some (vI l1), _, _, some (vI l4), _, _, _], [])) (h' := (T, up3 S cM_timer l0 (ix l4) ((S cM_now l0 0) + (S cM_wait l0 (ix l4))))) rfl ?_
        exact t_M_sack_439 scr l0 l1 l4 (up3 S cM_timer l0 (ix l4) ((S cM_now l0 0) + (S cM_wait l0 (ix l4)))) T _ _ _ _ _ hx hG
  · rw [if_neg hc] at hx
    obtain ⟨x, hy, rfl⟩ := exW_some hx
    replace hx := hy
    simp only [Sum.elim_inr] at hG
    refine ev_steps 2 (c' := (447, [some (vR 1 l0), some (vI l1), _, _, some (vI l4), _, _, _], [vI l1, vR 1 l0])) (h' := (T, S)) rfl ?_
    obtain ⟨S278, hc, hx⟩ := bd_some hx
    refine ev_call rfl rfl rfl rfl rfl rfl rfl rfl rfl ((t_M_sendWhatMay scr l0 l1 S T hc rfl).mono (by decide)) ?_
    refine ev_steps 0 (c' := (450, [some (vR 1 l0), some (vI l1), _, _, some (vI l4), _, _, _], [])) (h' := (T, S278)) rfl ?_
    cases hx
    subst hG
    exact ev_ret rfl rfl
set_option maxRecDepth 100000 in
theorem t_M_sack_374 (scr : Nat × (Nat → Int32)) (l0 : Nat) (l1 : Int32) (l4 : Int32) (S : St) (T : St) (d2 d3 d5 d6 d7 : Option iV) {x : St} {o : Option iV × SS} (hx : f_M_sack_374 l0 l1 (l4, S) = some x) (hG : (fun x => (none, (T, x)) = o) x) : EB scr 2 1 0 cd_M_sack (374, [some (vR 1 l0), some (vI l1), d2, d3, some (vI l4), d5, d6, d7], []) (T, S) o := by
  exact iter_ind (P := fun q => ∀ d2 d3 d5 d6 d7 : Option iV, EB scr 2 1 0 cd_M_sack (374, [some (vR 1 l0), some (vI l1), d2, d3, some (vI q.1), d5, d6, d7], []) (T, q.2) o) (G := fun x => (none, (T, x)) = o) (fun q x hb hP d2 d3 d5 d6 d7 => t_M_sack_374_b scr l0 l1 q.1 q.2 T d2 d3 d5 d6 d7 hb hP) hx hG d2 d3 d5 d6 d7
def f_M_sack_356 (l0 : Nat) (l1 : Int32) (l2 : Int32) (l3 : Int32) (l4 : Int32) (S : St) : Option ((Int32 × St) ⊕ (St)) :=
  some (Sum.inl (l4 + (1 : Int32), S))
set_option maxRecDepth 100000 in
theorem t_M_sack_356 (scr : Nat × (Nat → Int32)) (l0 : Nat) (l1 : Int32) (l2 : Int32) (l3 : Int32) (l4 : Int32) (S : St) (T : St) (d5 d6 d7 : Option iV) {x : (Int32 × St) ⊕ (St)} {o : Option iV × SS} (hx : f_M_sack_356 l0 l1 l2 l3 l4 S = some x) (hG : (Sum.elim (fun q => ∀ d5 d6 d7 : Option iV, EB scr 2 1 0 cd_M_sack (272, [some (vR 1 l0), some (vI l1), some (vI l2), some (vI l3), some (vI q.1), d5, d6, d7], []) (T, q.2) o) (fun x => (none, (T, x)) = o)) x) : EB scr 2 1 0 cd_M_sack (356, [some (vR 1 l0), some (vI l1), some (vI l2), some (vI l3), some (vI l4), d5, d6, d7], []) (T, S) o := by
  unfold f_M_sack_356 at hx
  try dsimp only at hG
  refine ev_steps 2 (c' := (272, [some (vR 1 l0), some (vI l1), some (vI l2), some (vI l3), some (vI (l4 + (1 : Int32))), _, _, _], [])) (h' := (T, S)) rfl ?_
  cases hx
  exact hG _ _ _
def f_M_sack_347 (l0 : Nat) (l1 : Int32) (l2 : Int32) (l3 : Int32) (l4 : Int32) (s0 : Nat) (s1 : Int32) (s2 : Int32) (S : St) : Option ((Int32 × St) ⊕ (St)) :=
  if inb s1 4 = true then if inb l4 4 = true then f_M_sack_356 l0 l1 l2 l3 l4 (up3 (up3 S cM_rate s0 (ix s1) s2) cM_active l0 (ix l4) (1 : Int32)) else none else none
set_option maxRecDepth 100000 in
theorem t_M_sack_347 (scr : Nat × (Nat → Int32)) (l0 : Nat) (l1 : Int32) (l2 : Int32) (l3 : Int32) (l4 : Int32) (s0 : Nat) (s1 : Int32) (s2 : Int32) (S : St) (T : St) (d5 d6 d7 : Option iV) {x : (Int32 × St) ⊕ (St)} {o : Option iV × SS} (hx : f_M_sack_347 l0 l1 l2 l3 l4 s0 s1 s2 S = some x) (hG : (Sum.elim (fun q => ∀ d5 d6 d7 : Option iV, EB scr 2 1 0 cd_M_sack (272, [some (vR 1 l0), some (vI l1), some (vI l2), some (vI l3), some (vI q.1), d5, d6, d7], []) (T, q.2) o) (fun x => (none, (T, x)) = o)) x) : EB scr 2 1 0 cd_M_sack (347, [some (vR 1 l0), some (vI l1), some (vI l2), some (vI l3), some (vI l4), d5, d6, d7], [vI s2, vI s1, vR 92 s0]) (T, S) o := by
  unfold f_M_sack_347 at hx
  try dsimp only at hG
  obtain ⟨hg, hx⟩ := ifg hx
  refine ev_iast rfl rfl hg ?_
  refine ev_steps 4 (c' := (355, [some (vR 1 l0), some (vI l1), some (vI l2), some (vI l3), some (vI l4), _, _, _], [vI (1 : Int32), vI l4, vR 91 l0])) (h' := (T, up3 S cM_rate s0 (ix s1) s2)) rfl ?_
  obtain ⟨hg, hx⟩ := ifg hx
  refine ev_bast rfl rfl hg rfl ?_
  refine ev_steps 0 (c' := (356, [some (vR 1 l0), some (vI l1), some (vI l2), some (vI l3), some (vI l4), _, _, _], [])) (h' := (T, up3 (up3 S cM_rate s0 (ix s1) s2) cM_active l0 (ix l4) (1 : Int32))) rfl ?_
  exact t_M_sack_356 scr l0 l1 l2 l3 l4 (up3 (up3 S cM_rate s0 (ix s1) s2) cM_active l0 (ix l4) (1 : Int32)) T _ _ _ hx hG
def f_M_sack_272_b (l0 : Nat) (l1 : Int32) (l2 : Int32) (l3 : Int32)  : (Int32 × St) → Option ((Int32 × St) ⊕ (St))
  | (l4, S) => if l4 < (((2 : Int32) * l1) + (2 : Int32)) then (if inb l4 4 = true then if (nz (S cM_good l0 (ix l4))) = 0 then f_M_sack_356 l0 l1 l2 l3 l4 S else (if inb l4 4 = true then if inb l1 2 = true then if inb l4 4 = true then if inb l4 4 = true then if (S cM_rate l0 (ix l4)) < (8 : Int32) then (if inb l4 4 = true then f_M_sack_347 l0 l1 l2 l3 l4 l0 l4 ((S cM_rate l0 (ix l4)) + (1 : Int32)) (up3 (up3 (up3 S cM_errors l0 (ix l4) (0 : Int32)) cM_allErrors l0 (ix l1) (0 : Int32)) cM_wait l0 (ix l4) (3 : Int32)) else none) else f_M_sack_347 l0 l1 l2 l3 l4 l0 l4 (8 : Int32) (up3 (up3 (up3 S cM_errors l0 (ix l4) (0 : Int32)) cM_allErrors l0 (ix l1) (0 : Int32)) cM_wait l0 (ix l4) (3 : Int32)) else none else none else none else none) else none) else exW (bd (f_M_strike l0 l1 l2 l3 S) (fun S276 => f_M_sack_374 l0 l1 ((2 : Int32) * l1, S276)))
def f_M_sack_272 (l0 : Nat) (l1 : Int32) (l2 : Int32) (l3 : Int32)  (q : Int32 × St) : Option (St) := iter (f_M_sack_272_b l0 l1 l2 l3) 4096 q
set_option maxRecDepth 100000 in
theorem t_M_sack_272_b (scr : Nat × (Nat → Int32)) (l0 : Nat) (l1 : Int32) (l2 : Int32) (l3 : Int32) (l4 : Int32) (S : St) (T : St) (d5 d6 d7 : Option iV) {x : (Int32 × St) ⊕ (St)} {o : Option iV × SS} (hx : f_M_sack_272_b l0 l1 l2 l3 (l4, S) = some x) (hG : (Sum.elim (fun q => ∀ d5 d6 d7 : Option iV, EB scr 2 1 0 cd_M_sack (272, [some (vR 1 l0), some (vI l1), some (vI l2), some (vI l3), some (vI q.1), d5, d6, d7], []) (T, q.2) o) (fun x => (none, (T, x)) = o)) x) : EB scr 2 1 0 cd_M_sack (272, [some (vR 1 l0), some (vI l1), some (vI l2), some (vI l3), some (vI l4), d5, d6, d7], []) (T, S) o := by
  unfold f_M_sack_272_b at hx
  dsimp only at hx
  refine ev_steps 6 (c' := (279, [some (vR 1 l0), some (vI l1), some (vI l2), some (vI l3), some (vI l4), _, _, _], [vI (((2 : Int32) * l1) + (2 : Int32)), vI l4])) (h' := (T, S)) rfl ?_
  refine ev_icmp_ge rfl (fun hc => ?_) (fun hc => ?_)
  · rw [if_pos hc] at hx
    refine ev_steps 3 (c' := (288, [some (vR 1 l0), some (vI l1), some (vI l2), some (vI l3), some (vI l4), _, _, _], [vI l4, vR 99 l0])) (h' := (T, S)) rfl ?_
    obtain ⟨hg, hx⟩ := ifg hx
    refine ev_bald rfl rfl hg ?_
    refine ev_steps 0 (c' := (289, [some (vR 1 l0), some (vI l1), some (vI l2), some (vI l3), some (vI l4), _, _, _], [vI (nz (S cM_good l0 (ix l4)))])) (h' := (T, S)) rfl ?_
    refine ev_if_eq rfl (fun hc => ?_) (fun hc => ?_)
    · rw [if_pos hc] at hx
      exact t_M_sack_356 scr l0 l1 l2 l3 l4 S T _ _ _ hx hG
    · rw [if_neg hc] at hx
      refine ev_steps 4 (c' := (299, [some (vR 1 l0), some (vI l1), some (vI l2), some (vI l3), some (vI l4), _, _, _], [vI (0 : Int32), vI l4, vR 94 l0])) (h' := (T, S)) rfl ?_
      obtain ⟨hg, hx⟩ := ifg hx
      refine ev_iast rfl rfl hg ?_
      refine ev_steps 4 (c' := (306, [some (vR 1 l0), some (vI l1), some (vI l2), some (vI l3), some (vI l4), _, _, _], [vI (0 : Int32), vI l1, vR 89 l0])) (h' := (T, up3 S cM_errors l0 (ix l4) (0 : Int32))) rfl ?_
      obtain ⟨hg, hx⟩ := ifg hx
      refine ev_iast rfl rfl hg ?_
      refine ev_steps 4 (c' := (314, [some (vR 1 l0), some (vI l1), some (vI l2), some (vI l3), some (vI l4), _, _, _], [vI (3 : Int32), vI l4, vR 93 l0])) (h' := (T, up3 (up3 S cM_errors l0 (ix l4) (0 : Int32)) cM_allErrors l0 (ix l1) (0 : Int32))) rfl ?_
      obtain ⟨hg, hx⟩ := ifg hx
      refine ev_iast rfl rfl hg ?_
      refine ev_steps 6 (c' := (327, [some (vR 1 l0), some (vI l1), some (vI l2), some (vI l3), some (vI l4), _, _, _], [vI l4, vR 92 l0, vI l4, vR 92 l0])) (h' := (T, up3 (up3 (up3 S cM_errors l0 (ix l4) (0 : Int32)) cM_allErrors l0 (ix l1) (0 : Int32)) cM_wait l0 (ix l4) (3 : Int32))) rfl ?_
      obtain ⟨hg, hx⟩ := ifg hx
      refine ev_iald rfl rfl rfl hg ?_
      refine ev_steps 1 (c' := (330, [some (vR 1 l0), some (vI l1), some (vI l2), some (vI l3), some (vI l4), _, _, _], [vI (8 : Int32), vI (S cM_rate l0 (ix l4)), vI l4, vR 92 l0])) (h' := (T, up3 (up3 (up3 S cM_errors l0 (ix l4) (0 : Int32)) cM_allErrors l0 (ix l1) (0 : Int32)) cM_wait l0 (ix l4) (3 : Int32))) rfl ?_
      refine ev_icmp_ge rfl (fun hc => ?_) (fun hc => ?_)
      · rw [if_pos hc] at hx
        refine ev_steps 3 (c' := (339, [some (vR 1 l0), some (vI l1), some (vI l2), some (vI l3), some (vI l4), _, _, _], [vI l4, vR 92 l0, vI l4, vR 92 l0])) (h' := (T, up3 (up3 (up3 S cM_errors l0 (ix l4) (0 : Int32)) cM_allErrors l0 (ix l1) (0 : Int32)) cM_wait l0 (ix l4) (3 : Int32))) rfl ?_
        obtain ⟨hg, hx⟩ := ifg hx
        refine ev_iald rfl rfl rfl hg ?_
        refine ev_steps 3 (c' := (347, [some (vR 1 l0), some (vI l1), some (vI l2), some (vI l3), some (vI l4), _, _, _], [vI ((S cM_rate l0 (ix l4)) + (1 : Int32)), vI l4, vR 92 l0])) (h' := (T, up3 (up3 (up3 S cM_errors l0 (ix l4) (0 : Int32)) cM_allErrors l0 (ix l1) (0 : Int32)) cM_wait l0 (ix l4) (3 : Int32))) rfl ?_
        exact t_M_sack_347 scr l0 l1 l2 l3 l4 l0 l4 ((S cM_rate l0 (ix l4)) + (1 : Int32)) (up3 (up3 (up3 S cM_errors l0 (ix l4) (0 : Int32)) cM_allErrors l0 (ix l1) (0 : Int32)) cM_wait l0 (ix l4) (3 : Int32)) T _ _ _ hx hG
      · rw [if_neg hc] at hx
        refine ev_steps 1 (c' := (347, [some (vR 1 l0), some (vI l1), some (vI l2), some (vI l3), some (vI l4), _, _, _], [vI (8 : Int32), vI l4, vR 92 l0])) (h' := (T, up3 (up3 (up3 S cM_errors l0 (ix l4) (0 : Int32)) cM_allErrors l0 (ix l1) (0 : Int32)) cM_wait l0 (ix l4) (3 : Int32))) rfl ?_
        exact t_M_sack_347 scr l0 l1 l2 l3 l4 l0 l4 (8 : Int32) (up3 (up3 (up3 S cM_errors l0 (ix l4) (0 : Int32)) cM_allErrors l0 (ix l1) (0 : Int32)) cM_wait l0 (ix l4) (3 : Int32)) T _ _ _ hx hG
  · rw [if_neg hc] at hx
    obtain ⟨x, hy, rfl⟩ := exW_some hx
    replace hx := hy
    simp only [Sum.elim_inr] at hG
    refine ev_steps 4 (c' := (366, [some (vR 1 l0), some (vI l1), some (vI l2), some (vI l3), some (vI l4), _, _, _], [vI l3, vI l2, vI l1, vR 1 l0])) (h' := (T, S)) rfl ?_
    obtain ⟨S276, hc, hx⟩ := bd_some hx
    refine ev_call rfl rfl rfl rfl rfl rfl rfl rfl rfl ((t_M_strike scr l0 l1 l2 l3 S T hc rfl).mono (by decide)) ?_
    refine ev_steps 4 (c' := (374, [some (vR 1 l0), some (vI l1), some (vI l2), some (vI l3), some (vI ((2 : Int32) * l1)), _, _, _], [])) (h' := (T, S276)) rfl ?_
    exact t_M_sack_374 scr l0 l1 ((2 : Int32) * l1) S276 T _ _ _ _ _ hx hG
set_option maxRecDepth 100000 in
theorem t_M_sack_272 (scr : Nat × (Nat → Int32)) (l0 : Nat) (l1 : Int32) (l2 : Int32) (l3 : Int32) (l4 : Int32) (S : St) (T : St) (d5 d6 d7 : Option iV) {x : St} {o : Option iV × SS} (hx : f_M_sack_272 l0 l1 l2 l3 (l4, S) = some x) (hG : (fun x => (none, (T, x)) = o) x) : EB scr 2 1 0 cd_M_sack (272, [some (vR 1 l0), some (vI l1), some (vI l2), some (vI l3), some (vI l4), d5, d6, d7], []) (T, S) o := by
  exact iter_ind (P := fun q => ∀ d5 d6 d7 : Option iV, EB scr 2 1 0 cd_M_sack (272, [some (vR 1 l0), some (vI l1), some (vI l2), some (vI l3), some (vI q.1), d5, d6, d7], []) (T, q.2) o) (G := fun x => (none, (T, x)) = o) (fun q x hb hP d5 d6 d7 => t_M_sack_272_b scr l0 l1 l2 l3 q.1 q.2 T d5 d6 d7 hb hP) hx hG d5 d6 d7
def f_M_sack_254 (l0 : Nat) (l1 : Int32) (l2 : Int32) (l3 : Int32) (s0 : Nat) (s1 : Int32) (s2 : Int32) (S : St) : Option (St) :=
  if inb s1 2 = true then if inb (4 : Int32) 8 = true then if inb l1 2 = true then f_M_sack_272 l0 l1 l2 l3 ((2 : Int32) * l1, up3 (up3 S cM_gone s0 (ix s1) s2) cM_window l0 (ix l1) (S cM_arrived l0 (ix (4 : Int32)))) else none else none else none
set_option maxRecDepth 100000 in
theorem t_M_sack_254 (scr : Nat × (Nat → Int32)) (l0 : Nat) (l1 : Int32) (l2 : Int32) (l3 : Int32) (s0 : Nat) (s1 : Int32) (s2 : Int32) (S : St) (T : St) (d4 d5 d6 d7 : Option iV) {x : St} {o : Option iV × SS} (hx : f_M_sack_254 l0 l1 l2 l3 s0 s1 s2 S = some x) (hG : (fun x => (none, (T, x)) = o) x) : EB scr 2 1 0 cd_M_sack (254, [some (vR 1 l0), some (vI l1), some (vI l2), some (vI l3), d4, d5, d6, d7], [vI s2, vI s1, vR 100 s0]) (T, S) o := by
  unfold f_M_sack_254 at hx
  try dsimp only at hG
  obtain ⟨hg, hx⟩ := ifg hx
  refine ev_iast rfl rfl hg ?_
  refine ev_steps 6 (c' := (265, [some (vR 1 l0), some (vI l1), some (vI l2), some (vI l3), _, _, _, _], [vI (4 : Int32), vR 78 l0, vI l1, vR 90 l0])) (h' := (T, up3 S cM_gone s0 (ix s1) s2)) rfl ?_
  obtain ⟨hg, hx⟩ := ifg hx
  refine ev_iald rfl rfl rfl hg ?_
  refine ev_steps 0 (c' := (266, [some (vR 1 l0), some (vI l1), some (vI l2), some (vI l3), _, _, _, _], [vI (S cM_arrived l0 (ix (4 : Int32))), vI l1, vR 90 l0])) (h' := (T, up3 S cM_gone s0 (ix s1) s2)) rfl ?_
  obtain ⟨hg, hx⟩ := ifg hx
  refine ev_iast rfl rfl hg ?_
  refine ev_steps 4 (c' := (272, [some (vR 1 l0), some (vI l1), some (vI l2), some (vI l3), some (vI ((2 : Int32) * l1)), _, _, _], [])) (h' := (T, up3 (up3 S cM_gone s0 (ix s1) s2) cM_window l0 (ix l1) (S cM_arrived l0 (ix (4 : Int32))))) rfl ?_
  exact t_M_sack_272 scr l0 l1 l2 l3 ((2 : Int32) * l1) (up3 (up3 S cM_gone s0 (ix s1) s2) cM_window l0 (ix l1) (S cM_arrived l0 (ix (4 : Int32)))) T _ _ _ hx hG
def f_M_sack_201_b (l0 : Nat) (l1 : Int32) (l2 : Int32) (l3 : Int32)  : (Int32 × St) → Option ((Int32 × St) ⊕ (St))
  | (l4, S) => if l2 < l4 then exW (if inb l1 2 = true then if (S cM_gone l0 (ix l1)) < l2 then f_M_sack_254 l0 l1 l2 l3 l0 l1 l2 S else (if inb l1 2 = true then f_M_sack_254 l0 l1 l2 l3 l0 l1 (S cM_gone l0 (ix l1)) S else none) else none) else (if inb (((32 : Int32) * l1) + (iRem l4 (32 : Int32))) 64 = true then some (Sum.inl (l4 + (1 : Int32), up3 S cM_word l0 (ix (((32 : Int32) * l1) + (iRem l4 (32 : Int32)))) (0 : Int32))) else none)
def f_M_sack_201 (l0 : Nat) (l1 : Int32) (l2 : Int32) (l3 : Int32)  (q : Int32 × St) : Option (St) := iter (f_M_sack_201_b l0 l1 l2 l3) 4096 q
set_option maxRecDepth 100000 in
theorem t_M_sack_201_b (scr : Nat × (Nat → Int32)) (l0 : Nat) (l1 : Int32) (l2 : Int32) (l3 : Int32) (l4 : Int32) (S : St) (T : St) (d5 d6 d7 : Option iV) {x : (Int32 × St) ⊕ (St)} {o : Option iV × SS} (hx : f_M_sack_201_b l0 l1 l2 l3 (l4, S) = some x) (hG : (Sum.elim (fun q => ∀ d5 d6 d7 : Option iV, EB scr 2 1 0 cd_M_sack (201, [some (vR 1 l0), some (vI l1), some (vI l2), some (vI l3), some (vI q.1), d5, d6, d7], []) (T, q.2) o) (fun x => (none, (T, x)) = o)) x) : EB scr 2 1 0 cd_M_sack (201, [some (vR 1 l0), some (vI l1), some (vI l2), some (vI l3), some (vI l4), d5, d6, d7], []) (T, S) o := by
  unfold f_M_sack_201_b at hx
  dsimp only at hx
  refine ev_steps 2 (c' := (204, [some (vR 1 l0), some (vI l1), some (vI l2), some (vI l3), some (vI l4), _, _, _], [vI l2, vI l4])) (h' := (T, S)) rfl ?_
  refine ev_icmp_gt rfl (fun hc => ?_) (fun hc => ?_)
  · rw [if_pos hc] at hx
    obtain ⟨x, hy, rfl⟩ := exW_some hx
    replace hx := hy
    simp only [Sum.elim_inr] at hG
    refine ev_steps 7 (c' := (240, [some (vR 1 l0), some (vI l1), some (vI l2), some (vI l3), some (vI l4), _, _, _], [vI l1, vR 100 l0, vI l2, vI l1, vR 100 l0])) (h' := (T, S)) rfl ?_
    obtain ⟨hg, hx⟩ := ifg hx
    refine ev_iald rfl rfl rfl hg ?_
    refine ev_steps 0 (c' := (241, [some (vR 1 l0), some (vI l1), some (vI l2), some (vI l3), some (vI l4), _, _, _], [vI (S cM_gone l0 (ix l1)), vI l2, vI l1, vR 100 l0])) (h' := (T, S)) rfl ?_
    refine ev_icmp_le rfl (fun hc => ?_) (fun hc => ?_)
    · rw [if_pos hc] at hx
      refine ev_steps 2 (c' := (254, [some (vR 1 l0), some (vI l1), some (vI l2), some (vI l3), some (vI l4), _, _, _], [vI l2, vI l1, vR 100 l0])) (h' := (T, S)) rfl ?_
      exact t_M_sack_254 scr l0 l1 l2 l3 l0 l1 l2 S T _ _ _ _ hx hG
    · rw [if_neg hc] at hx
      refine ev_steps 3 (c' := (253, [some (vR 1 l0), some (vI l1), some (vI l2), some (vI l3), some (vI l4), _, _, _], [vI l1, vR 100 l0, vI l1, vR 100 l0])) (h' := (T, S)) rfl ?_
      obtain ⟨hg, hx⟩ := ifg hx
      refine ev_iald rfl rfl rfl hg ?_
      refine ev_steps 0 (c' := (254, [some (vR 1 l0), some (vI l1), some (vI l2), some (vI l3), some (vI l4), _, _, _], [vI (S cM_gone l0 (ix l1)), vI l1, vR 100 l0])) (h' := (T, S)) rfl ?_
      exact t_M_sack_254 scr l0 l1 l2 l3 l0 l1 (S cM_gone l0 (ix l1)) S T _ _ _ _ hx hG
  · rw [if_neg hc] at hx
    refine ev_steps 10 (c' := (222, [some (vR 1 l0), some (vI l1), some (vI l2), some (vI l3), some (vI l4), _, _, _], [vI (0 : Int32), vI (((32 : Int32) * l1) + (iRem l4 (32 : Int32))), vR 103 l0])) (h' := (T, S)) rfl ?_
    obtain ⟨hg, hx⟩ := ifg hx
    refine ev_iast rfl rfl hg ?_
    refine ev_steps 2 (c' := (201, [some (vR 1 l0), some (vI l1), some (vI l2), some (vI l3), some (vI (l4 + (1 : Int32))), _, _, _], [])) (h' := (T, up3 S cM_word l0 (ix (((32 : Int32) * l1) + (iRem l4 (32 : Int32)))) (0 : Int32))) rfl ?_
    cases hx
    exact hG _ _ _
set_option maxRecDepth 100000 in
theorem t_M_sack_201 (scr : Nat × (Nat → Int32)) (l0 : Nat) (l1 : Int32) (l2 : Int32) (l3 : Int32) (l4 : Int32) (S : St) (T : St) (d5 d6 d7 : Option iV) {x : St} {o : Option iV × SS} (hx : f_M_sack_201 l0 l1 l2 l3 (l4, S) = some x) (hG : (fun x => (none, (T, x)) = o) x) : EB scr 2 1 0 cd_M_sack (201, [some (vR 1 l0), some (vI l1), some (vI l2), some (vI l3), some (vI l4), d5, d6, d7], []) (T, S) o := by
  exact iter_ind (P := fun q => ∀ d5 d6 d7 : Option iV, EB scr 2 1 0 cd_M_sack (201, [some (vR 1 l0), some (vI l1), some (vI l2), some (vI l3), some (vI q.1), d5, d6, d7], []) (T, q.2) o) (G := fun x => (none, (T, x)) = o) (fun q x hb hP d5 d6 d7 => t_M_sack_201_b scr l0 l1 l2 l3 q.1 q.2 T d5 d6 d7 hb hP) hx hG d5 d6 d7
def f_M_sack_185 (l0 : Nat) (l1 : Int32) (l2 : Int32) (l3 : Int32) (l4 : Int32) (S : St) : Option ((Int32 × St) ⊕ (St)) :=
  some (Sum.inl (l4 + (1 : Int32), S))
set_option maxRecDepth 100000 in
theorem t_M_sack_185 (scr : Nat × (Nat → Int32)) (l0 : Nat) (l1 : Int32) (l2 : Int32) (l3 : Int32) (l4 : Int32) (S : St) (T : St) (d5 d6 d7 : Option iV) {x : (Int32 × St) ⊕ (St)} {o : Option iV × SS} (hx : f_M_sack_185 l0 l1 l2 l3 l4 S = some x) (hG : (Sum.elim (fun q => ∀ d5 d6 d7 : Option iV, EB scr 2 1 0 cd_M_sack (72, [some (vR 1 l0), some (vI l1), some (vI l2), some (vI l3), some (vI q.1), d5, d6, d7], []) (T, q.2) o) (fun x => (none, (T, x)) = o)) x) : EB scr 2 1 0 cd_M_sack (185, [some (vR 1 l0), some (vI l1), some (vI l2), some (vI l3), some (vI l4), d5, d6, d7], []) (T, S) o := by
  unfold f_M_sack_185 at hx
  try dsimp only at hG
  refine ev_steps 2 (c' := (72, [some (vR 1 l0), some (vI l1), some (vI l2), some (vI l3), some (vI (l4 + (1 : Int32))), _, _, _], [])) (h' := (T, S)) rfl ?_
  cases hx
  exact hG _ _ _
def f_M_sack_160 (l0 : Nat) (l1 : Int32) (l2 : Int32) (l3 : Int32) (l4 : Int32) (l5 : Int32) (S : St) : Option ((Int32 × St) ⊕ (St)) :=
  if inb l5 64 = true then if inb (((2 : Int32) * l1) + (S cM_sentOn l0 (ix l5))) 4 = true then if inb l5 64 = true then f_M_sack_185 l0 l1 l2 l3 l4 (up3 (up3 S cM_good l0 (ix (((2 : Int32) * l1) + (S cM_sentOn l0 (ix l5)))) (1 : Int32)) cM_word l0 (ix l5) (4 : Int32)) else none else none else none
set_option maxRecDepth 100000 in
theorem t_M_sack_160 (scr : Nat × (Nat → Int32)) (l0 : Nat) (l1 : Int32) (l2 : Int32) (l3 : Int32) (l4 : Int32) (l5 : Int32) (S : St) (T : St) (d6 d7 : Option iV) {x : (Int32 × St) ⊕ (St)} {o : Option iV × SS} (hx : f_M_sack_160 l0 l1 l2 l3 l4 l5 S = some x) (hG : (Sum.elim (fun q => ∀ d5 d6 d7 : Option iV, EB scr 2 1 0 cd_M_sack (72, [some (vR 1 l0), some (vI l1), some (vI l2), some (vI l3), some (vI q.1), d5, d6, d7], []) (T, q.2) o) (fun x => (none, (T, x)) = o)) x) : EB scr 2 1 0 cd_M_sack (160, [some (vR 1 l0), some (vI l1), some (vI l2), some (vI l3), some (vI l4), some (vI l5), d6, d7], []) (T, S) o := by
  unfold f_M_sack_160 at hx
  try dsimp only at hG
  refine ev_steps 8 (c' := (173, [some (vR 1 l0), some (vI l1), some (vI l2), some (vI l3), some (vI l4), some (vI l5), _, _], [vI l5, vR 108 l0, vI ((2 : Int32) * l1), vR 99 l0])) (h' := (T, S)) rfl ?_
  obtain ⟨hg, hx⟩ := ifg hx
  refine ev_iald rfl rfl rfl hg ?_
  refine ev_steps 2 (c' := (176, [some (vR 1 l0), some (vI l1), some (vI l2), some (vI l3), some (vI l4), some (vI l5), _, _], [vI (1 : Int32), vI (((2 : Int32) * l1) + (S cM_sentOn l0 (ix l5))), vR 99 l0])) (h' := (T, S)) rfl ?_
  obtain ⟨hg, hx⟩ := ifg hx
  refine ev_bast rfl rfl hg rfl ?_
  refine ev_steps 4 (c' := (184, [some (vR 1 l0), some (vI l1), some (vI l2), some (vI l3), some (vI l4), some (vI l5), _, _], [vI (4 : Int32), vI l5, vR 103 l0])) (h' := (T, up3 S cM_good l0 (ix (((2 : Int32) * l1) + (S cM_sentOn l0 (ix l5)))) (1 : Int32))) rfl ?_
  obtain ⟨hg, hx⟩ := ifg hx
  refine ev_iast rfl rfl hg ?_
  refine ev_steps 0 (c' := (185, [some (vR 1 l0), some (vI l1), some (vI l2), some (vI l3), some (vI l4), some (vI l5), _, _], [])) (h' := (T, up3 (up3 S cM_good l0 (ix (((2 : Int32) * l1) + (S cM_sentOn l0 (ix l5)))) (1 : Int32)) cM_word l0 (ix l5) (4 : Int32))) rfl ?_
  exact t_M_sack_185 scr l0 l1 l2 l3 l4 (up3 (up3 S cM_good l0 (ix (((2 : Int32) * l1) + (S cM_sentOn l0 (ix l5)))) (1 : Int32)) cM_word l0 (ix l5) (4 : Int32)) T _ _ _ hx hG
def f_M_sack_131 (l0 : Nat) (l1 : Int32) (l2 : Int32) (l3 : Int32) (l4 : Int32) (l5 : Int32) (s0 : Int32) (S : St) : Option ((Int32 × St) ⊕ (St)) :=
  if s0 = 0 then f_M_sack_185 l0 l1 l2 l3 l4 S else (if inb l5 64 = true then if (S cM_word l0 (ix l5)) = (2 : Int32) then f_M_sack_160 l0 l1 l2 l3 l4 l5 S else (if inb l5 64 = true then if (S cM_word l0 (ix l5)) = (3 : Int32) then f_M_sack_160 l0 l1 l2 l3 l4 l5 S else f_M_sack_185 l0 l1 l2 l3 l4 S else none) else none)
set_option maxRecDepth 100000 in
theorem t_M_sack_131 (scr : Nat × (Nat → Int32)) (l0 : Nat) (l1 : Int32) (l2 : Int32) (l3 : Int32) (l4 : Int32) (l5 : Int32) (s0 : Int32) (S : St) (T : St) (d6 d7 : Option iV) {x : (Int32 × St) ⊕ (St)} {o : Option iV × SS} (hx : f_M_sack_131 l0 l1 l2 l3 l4 l5 s0 S = some x) (hG : (Sum.elim (fun q => ∀ d5 d6 d7 : Option iV, EB scr 2 1 0 cd_M_sack (72, [some (vR 1 l0), some (vI l1), some (vI l2), some (vI l3), some (vI q.1), d5, d6, d7], []) (T, q.2) o) (fun x => (none, (T, x)) = o)) x) : EB scr 2 1 0 cd_M_sack (131, [some (vR 1 l0), some (vI l1), some (vI l2), some (vI l3), some (vI l4), some (vI l5), d6, d7], [vI s0]) (T, S) o := by
  unfold f_M_sack_131 at hx
  try dsimp only at hG
  refine ev_steps 2 (c' := (135, [some (vR 1 l0), some (vI l1), some (vI l2), some (vI l3), some (vI l4), some (vI l5), _, some (vI s0)], [vI s0])) (h' := (T, S)) rfl ?_
  refine ev_if_eq rfl (fun hc => ?_) (fun hc => ?_)
  · rw [if_pos hc] at hx
    exact t_M_sack_185 scr l0 l1 l2 l3 l4 S T _ _ _ hx hG
  · rw [if_neg hc] at hx
    refine ev_steps 3 (c' := (144, [some (vR 1 l0), some (vI l1), some (vI l2), some (vI l3), some (vI l4), some (vI l5), _, some (vI s0)], [vI l5, vR 103 l0])) (h' := (T, S)) rfl ?_
    obtain ⟨hg, hx⟩ := ifg hx
    refine ev_iald rfl rfl rfl hg ?_
    refine ev_steps 1 (c' := (146, [some (vR 1 l0), some (vI l1), some (vI l2), some (vI l3), some (vI l4), some (vI l5), _, some (vI s0)], [vI (2 : Int32), vI (S cM_word l0 (ix l5))])) (h' := (T, S)) rfl ?_
    refine ev_icmp_eq rfl (fun hc => ?_) (fun hc => ?_)
    · rw [if_pos hc] at hx
      exact t_M_sack_160 scr l0 l1 l2 l3 l4 l5 S T _ _ hx hG
    · rw [if_neg hc] at hx
      refine ev_steps 3 (c' := (155, [some (vR 1 l0), some (vI l1), some (vI l2), some (vI l3), some (vI l4), some (vI l5), _, some (vI s0)], [vI l5, vR 103 l0])) (h' := (T, S)) rfl ?_
      obtain ⟨hg, hx⟩ := ifg hx
      refine ev_iald rfl rfl rfl hg ?_
      refine ev_steps 1 (c' := (157, [some (vR 1 l0), some (vI l1), some (vI l2), some (vI l3), some (vI l4), some (vI l5), _, some (vI s0)], [vI (3 : Int32), vI (S cM_word l0 (ix l5))])) (h' := (T, S)) rfl ?_
      refine ev_icmp_ne rfl (fun hc => ?_) (fun hc => ?_)
      · rw [if_pos hc] at hx
        exact t_M_sack_160 scr l0 l1 l2 l3 l4 l5 S T _ _ hx hG
      · rw [if_neg hc] at hx
        exact t_M_sack_185 scr l0 l1 l2 l3 l4 S T _ _ _ hx hG
def f_M_sack_126 (l0 : Nat) (l1 : Int32) (l2 : Int32) (l3 : Int32) (l4 : Int32) (l5 : Int32) (S : St) : Option ((Int32 × St) ⊕ (St)) :=
  f_M_sack_131 l0 l1 l2 l3 l4 l5 (1 : Int32) S
set_option maxRecDepth 100000 in
theorem t_M_sack_126 (scr : Nat × (Nat → Int32)) (l0 : Nat) (l1 : Int32) (l2 : Int32) (l3 : Int32) (l4 : Int32) (l5 : Int32) (S : St) (T : St) (d6 d7 : Option iV) {x : (Int32 × St) ⊕ (St)} {o : Option iV × SS} (hx : f_M_sack_126 l0 l1 l2 l3 l4 l5 S = some x) (hG : (Sum.elim (fun q => ∀ d5 d6 d7 : Option iV, EB scr 2 1 0 cd_M_sack (72, [some (vR 1 l0), some (vI l1), some (vI l2), some (vI l3), some (vI q.1), d5, d6, d7], []) (T, q.2) o) (fun x => (none, (T, x)) = o)) x) : EB scr 2 1 0 cd_M_sack (126, [some (vR 1 l0), some (vI l1), some (vI l2), some (vI l3), some (vI l4), some (vI l5), d6, d7], []) (T, S) o := by
  unfold f_M_sack_126 at hx
  try dsimp only at hG
  refine ev_steps 2 (c' := (131, [some (vR 1 l0), some (vI l1), some (vI l2), some (vI l3), some (vI l4), some (vI l5), _, _], [vI (1 : Int32)])) (h' := (T, S)) rfl ?_
  exact t_M_sack_131 scr l0 l1 l2 l3 l4 l5 (1 : Int32) S T _ _ hx hG
def f_M_sack_130 (l0 : Nat) (l1 : Int32) (l2 : Int32) (l3 : Int32) (l4 : Int32) (l5 : Int32) (S : St) : Option ((Int32 × St) ⊕ (St)) :=
  f_M_sack_131 l0 l1 l2 l3 l4 l5 (0 : Int32) S
set_option maxRecDepth 100000 in
theorem t_M_sack_130 (scr : Nat × (Nat → Int32)) (l0 : Nat) (l1 : Int32) (l2 : Int32) (l3 : Int32) (l4 : Int32) (l5 : Int32) (S : St) (T : St) (d6 d7 : Option iV) {x : (Int32 × St) ⊕ (St)} {o : Option iV × SS} (hx : f_M_sack_130 l0 l1 l2 l3 l4 l5 S = some x) (hG : (Sum.elim (fun q => ∀ d5 d6 d7 : Option iV, EB scr 2 1 0 cd_M_sack (72, [some (vR 1 l0), some (vI l1), some (vI l2), some (vI l3), some (vI q.1), d5, d6, d7], []) (T, q.2) o) (fun x => (none, (T, x)) = o)) x) : EB scr 2 1 0 cd_M_sack (130, [some (vR 1 l0), some (vI l1), some (vI l2), some (vI l3), some (vI l4), some (vI l5), d6, d7], []) (T, S) o := by
  unfold f_M_sack_130 at hx
  try dsimp only at hG
  refine ev_steps 1 (c' := (131, [some (vR 1 l0), some (vI l1), some (vI l2), some (vI l3), some (vI l4), some (vI l5), _, _], [vI (0 : Int32)])) (h' := (T, S)) rfl ?_
  exact t_M_sack_131 scr l0 l1 l2 l3 l4 l5 (0 : Int32) S T _ _ hx hG
def f_M_sack_72_b (l0 : Nat) (l1 : Int32) (l2 : Int32) (l3 : Int32)  : (Int32 × St) → Option ((Int32 × St) ⊕ (St))
  | (l4, S) => if inb l1 2 = true then if (S cM_given l0 (ix l1)) < l4 then exW (if inb l1 2 = true then f_M_sack_201 l0 l1 l2 l3 ((S cM_gone l0 (ix l1)) + (1 : Int32), S) else none) else (if l2 < l4 then (if ((l4 - l2) - (1 : Int32)) < (16 : Int32) then (if ((iShr l3 ((l4 - l2) - (1 : Int32))) &&& (1 : Int32)) = (1 : Int32) then f_M_sack_126 l0 l1 l2 l3 l4 (((32 : Int32) * l1) + (iRem l4 (32 : Int32))) S else f_M_sack_130 l0 l1 l2 l3 l4 (((32 : Int32) * l1) + (iRem l4 (32 : Int32))) S) else f_M_sack_130 l0 l1 l2 l3 l4 (((32 : Int32) * l1) + (iRem l4 (32 : Int32))) S) else f_M_sack_126 l0 l1 l2 l3 l4 (((32 : Int32) * l1) + (iRem l4 (32 : Int32))) S) else none
def f_M_sack_72 (l0 : Nat) (l1 : Int32) (l2 : Int32) (l3 : Int32)  (q : Int32 × St) : Option (St) := iter (f_M_sack_72_b l0 l1 l2 l3) 4096 q
set_option maxRecDepth 100000 in
theorem t_M_sack_72_b (scr : Nat × (Nat → Int32)) (l0 : Nat) (l1 : Int32) (l2 : Int32) (l3 : Int32) (l4 : Int32) (S : St) (T : St) (d5 d6 d7 : Option iV) {x : (Int32 × St) ⊕ (St)} {o : Option iV × SS} (hx : f_M_sack_72_b l0 l1 l2 l3 (l4, S) = some x) (hG : (Sum.elim (fun q => ∀ d5 d6 d7 : Option iV, EB scr 2 1 0 cd_M_sack (72, [some (vR 1 l0), some (vI l1), some (vI l2), some (vI l3), some (vI q.1), d5, d6, d7], []) (T, q.2) o) (fun x => (none, (T, x)) = o)) x) : EB scr 2 1 0 cd_M_sack (72, [some (vR 1 l0), some (vI l1), some (vI l2), some (vI l3), some (vI l4), d5, d6, d7], []) (T, S) o := by
  unfold f_M_sack_72_b at hx
  dsimp only at hx
  refine ev_steps 4 (c' := (79, [some (vR 1 l0), some (vI l1), some (vI l2), some (vI l3), some (vI l4), _, _, _], [vI l1, vR 101 l0, vI l4])) (h' := (T, S)) rfl ?_
  obtain ⟨hg, hx⟩ := ifg hx
  refine ev_iald rfl rfl rfl hg ?_
  refine ev_steps 0 (c' := (80, [some (vR 1 l0), some (vI l1), some (vI l2), some (vI l3), some (vI l4), _, _, _], [vI (S cM_given l0 (ix l1)), vI l4])) (h' := (T, S)) rfl ?_
  refine ev_icmp_gt rfl (fun hc => ?_) (fun hc => ?_)
  · rw [if_pos hc] at hx
    obtain ⟨x, hy, rfl⟩ := exW_some hx
    replace hx := hy
    simp only [Sum.elim_inr] at hG
    refine ev_steps 3 (c' := (196, [some (vR 1 l0), some (vI l1), some (vI l2), some (vI l3), some (vI l4), _, _, _], [vI l1, vR 100 l0])) (h' := (T, S)) rfl ?_
    obtain ⟨hg, hx⟩ := ifg hx
    refine ev_iald rfl rfl rfl hg ?_
    refine ev_steps 3 (c' := (201, [some (vR 1 l0), some (vI l1), some (vI l2), some (vI l3), some (vI ((S cM_gone l0 (ix l1)) + (1 : Int32))), _, _, _], [])) (h' := (T, S)) rfl ?_
    exact t_M_sack_201 scr l0 l1 l2 l3 ((S cM_gone l0 (ix l1)) + (1 : Int32)) S T _ _ _ hx hG
  · rw [if_neg hc] at hx
    refine ev_steps 16 (c' := (106, [some (vR 1 l0), some (vI l1), some (vI l2), some (vI l3), some (vI l4), some (vI (((32 : Int32) * l1) + (iRem l4 (32 : Int32)))), some (vI ((l4 - l2) - (1 : Int32))), _], [vI l2, vI l4])) (h' := (T, S)) rfl ?_
    refine ev_icmp_le rfl (fun hc => ?_) (fun hc => ?_)
    · rw [if_pos hc] at hx
      refine ev_steps 2 (c' := (113, [some (vR 1 l0), some (vI l1), some (vI l2), some (vI l3), some (vI l4), some (vI (((32 : Int32) * l1) + (iRem l4 (32 : Int32)))), some (vI ((l4 - l2) - (1 : Int32))), _], [vI (16 : Int32), vI ((l4 - l2) - (1 : Int32))])) (h' := (T, S)) rfl ?_
      refine ev_icmp_ge rfl (fun hc => ?_) (fun hc => ?_)
      · rw [if_pos hc] at hx
        refine ev_steps 6 (c' := (123, [some (vR 1 l0), some (vI l1), some (vI l2), some (vI l3), some (vI l4), some (vI (((32 : Int32) * l1) + (iRem l4 (32 : Int32)))), some (vI ((l4 - l2) - (1 : Int32))), _], [vI (1 : Int32), vI ((iShr l3 ((l4 - l2) - (1 : Int32))) &&& (1 : Int32))])) (h' := (T, S)) rfl ?_
        refine ev_icmp_ne rfl (fun hc => ?_) (fun hc => ?_)
        · rw [if_pos hc] at hx
          exact t_M_sack_126 scr l0 l1 l2 l3 l4 (((32 : Int32) * l1) + (iRem l4 (32 : Int32))) S T _ _ hx hG
        · rw [if_neg hc] at hx
          exact t_M_sack_130 scr l0 l1 l2 l3 l4 (((32 : Int32) * l1) + (iRem l4 (32 : Int32))) S T _ _ hx hG
      · rw [if_neg hc] at hx
        exact t_M_sack_130 scr l0 l1 l2 l3 l4 (((32 : Int32) * l1) + (iRem l4 (32 : Int32))) S T _ _ hx hG
    · rw [if_neg hc] at hx
      exact t_M_sack_126 scr l0 l1 l2 l3 l4 (((32 : Int32) * l1) + (iRem l4 (32 : Int32))) S T _ _ hx hG
set_option maxRecDepth 100000 in
theorem t_M_sack_72 (scr : Nat × (Nat → Int32)) (l0 : Nat) (l1 : Int32) (l2 : Int32) (l3 : Int32) (l4 : Int32) (S : St) (T : St) (d5 d6 d7 : Option iV) {x : St} {o : Option iV × SS} (hx : f_M_sack_72 l0 l1 l2 l3 (l4, S) = some x) (hG : (fun x => (none, (T, x)) = o) x) : EB scr 2 1 0 cd_M_sack (72, [some (vR 1 l0), some (vI l1), some (vI l2), some (vI l3), some (vI l4), d5, d6, d7], []) (T, S) o := by
  exact iter_ind (P := fun q => ∀ d5 d6 d7 : Option iV, EB scr 2 1 0 cd_M_sack (72, [some (vR 1 l0), some (vI l1), some (vI l2), some (vI l3), some (vI q.1), d5, d6, d7], []) (T, q.2) o) (G := fun x => (none, (T, x)) = o) (fun q x hb hP d5 d6 d7 => t_M_sack_72_b scr l0 l1 l2 l3 q.1 q.2 T d5 d6 d7 hb hP) hx hG d5 d6 d7
def f_M_sack (u : Nat) (a1 : Int32) (S : St) : Option (St) :=
  if inb (2 : Int32) 8 = true then if inb (3 : Int32) 8 = true then if inb a1 2 = true then if (S cM_arrived u (ix (2 : Int32))) < (S cM_sackOf u (ix a1)) then some S else (if inb a1 2 = true then if (S cM_given u (ix a1)) < (S cM_arrived u (ix (2 : Int32))) then some S else (if inb a1 2 = true then if inb ((2 : Int32) * a1) 4 = true then if inb (((2 : Int32) * a1) + (1 : Int32)) 4 = true then if inb a1 2 = true then f_M_sack_72 u a1 (S cM_arrived u (ix (2 : Int32))) (S cM_arrived u (ix (3 : Int32))) ((S cM_gone u (ix a1)) + (1 : Int32), up3 (up3 (up3 S cM_sackOf u (ix a1) (S cM_arrived u (ix (2 : Int32)))) cM_good u (ix ((2 : Int32) * a1)) (0 : Int32)) cM_good u (ix (((2 : Int32) * a1) + (1 : Int32))) (0 : Int32)) else none else none else none else none) else none) else none else none else none
set_option maxRecDepth 100000 in
theorem t_M_sack (scr : Nat × (Nat → Int32)) (u : Nat) (a1 : Int32) (S T : St) {x : St} {o : Option iV × SS} (hx : f_M_sack u a1 S = some x) (hG : (none, (T, x)) = o) : E0 scr 3 56 [vR 1 u, vI a1] (T, S) o := by
  refine ev_meth (ls := [some (vR 1 u), some (vI a1), none, none, none, none, none, none]) rfl rfl rfl ?_
  unfold f_M_sack at hx
  refine ev_steps 3 (c' := (5, [some (vR 1 u), some (vI a1), none, none, none, none, none, none], [vI (2 : Int32), vR 78 u])) (h' := (T, S)) rfl ?_
  obtain ⟨hg, hx⟩ := ifg hx
  refine ev_iald rfl rfl rfl hg ?_
  refine ev_steps 4 (c' := (12, [some (vR 1 u), some (vI a1), some (vI (S cM_arrived u (ix (2 : Int32)))), none, none, none, none, none], [vI (3 : Int32), vR 78 u])) (h' := (T, S)) rfl ?_
  obtain ⟨hg, hx⟩ := ifg hx
  refine ev_iald rfl rfl rfl hg ?_
  refine ev_steps 5 (c' := (20, [some (vR 1 u), some (vI a1), some (vI (S cM_arrived u (ix (2 : Int32)))), some (vI (S cM_arrived u (ix (3 : Int32)))), none, none, none, none], [vI a1, vR 110 u, vI (S cM_arrived u (ix (2 : Int32)))])) (h' := (T, S)) rfl ?_
  obtain ⟨hg, hx⟩ := ifg hx
  refine ev_iald rfl rfl rfl hg ?_
  refine ev_steps 0 (c' := (21, [some (vR 1 u), some (vI a1), some (vI (S cM_arrived u (ix (2 : Int32)))), some (vI (S cM_arrived u (ix (3 : Int32)))), none, none, none, none], [vI (S cM_sackOf u (ix a1)), vI (S cM_arrived u (ix (2 : Int32)))])) (h' := (T, S)) rfl ?_
  refine ev_icmp_lt rfl (fun hc => ?_) (fun hc => ?_)
  · rw [if_pos hc] at hx
    cases hx
    subst hG
    exact ev_ret rfl rfl
  · rw [if_neg hc] at hx
    refine ev_steps 4 (c' := (30, [some (vR 1 u), some (vI a1), some (vI (S cM_arrived u (ix (2 : Int32)))), some (vI (S cM_arrived u (ix (3 : Int32)))), none, none, none, none], [vI a1, vR 101 u, vI (S cM_arrived u (ix (2 : Int32)))])) (h' := (T, S)) rfl ?_
    obtain ⟨hg, hx⟩ := ifg hx
    refine ev_iald rfl rfl rfl hg ?_
    refine ev_steps 0 (c' := (31, [some (vR 1 u), some (vI a1), some (vI (S cM_arrived u (ix (2 : Int32)))), some (vI (S cM_arrived u (ix (3 : Int32)))), none, none, none, none], [vI (S cM_given u (ix a1)), vI (S cM_arrived u (ix (2 : Int32)))])) (h' := (T, S)) rfl ?_
    refine ev_icmp_le rfl (fun hc => ?_) (fun hc => ?_)
    · rw [if_pos hc] at hx
      cases hx
      subst hG
      exact ev_ret rfl rfl
    · rw [if_neg hc] at hx
      refine ev_steps 4 (c' := (41, [some (vR 1 u), some (vI a1), some (vI (S cM_arrived u (ix (2 : Int32)))), some (vI (S cM_arrived u (ix (3 : Int32)))), none, none, none, none], [vI (S cM_arrived u (ix (2 : Int32))), vI a1, vR 110 u])) (h' := (T, S)) rfl ?_
      obtain ⟨hg, hx⟩ := ifg hx
      refine ev_iast rfl rfl hg ?_
      refine ev_steps 6 (c' := (50, [some (vR 1 u), some (vI a1), some (vI (S cM_arrived u (ix (2 : Int32)))), some (vI (S cM_arrived u (ix (3 : Int32)))), none, none, none, none], [vI (0 : Int32), vI ((2 : Int32) * a1), vR 99 u])) (h' := (T, up3 S cM_sackOf u (ix a1) (S cM_arrived u (ix (2 : Int32))))) rfl ?_
      obtain ⟨hg, hx⟩ := ifg hx
      refine ev_bast rfl rfl hg rfl ?_
      refine ev_steps 8 (c' := (61, [some (vR 1 u), some (vI a1), some (vI (S cM_arrived u (ix (2 : Int32)))), some (vI (S cM_arrived u (ix (3 : Int32)))), none, none, none, none], [vI (0 : Int32), vI (((2 : Int32) * a1) + (1 : Int32)), vR 99 u])) (h' := (T, up3 (up3 S cM_sackOf u (ix a1) (S cM_arrived u (ix (2 : Int32)))) cM_good u (ix ((2 : Int32) * a1)) (0 : Int32))) rfl ?_
      obtain ⟨hg, hx⟩ := ifg hx
      refine ev_bast rfl rfl hg rfl ?_
      refine ev_steps 3 (c' := (67, [some (vR 1 u), some (vI a1), some (vI (S cM_arrived u (ix (2 : Int32)))), some (vI (S cM_arrived u (ix (3 : Int32)))), none, none, none, none], [vI a1, vR 100 u])) (h' := (T, up3 (up3 (up3 S cM_sackOf u (ix a1) (S cM_arrived u (ix (2 : Int32)))) cM_good u (ix ((2 : Int32) * a1)) (0 : Int32)) cM_good u (ix (((2 : Int32) * a1) + (1 : Int32))) (0 : Int32))) rfl ?_
      obtain ⟨hg, hx⟩ := ifg hx
      refine ev_iald rfl rfl rfl hg ?_
      refine ev_steps 3 (c' := (72, [some (vR 1 u), some (vI a1), some (vI (S cM_arrived u (ix (2 : Int32)))), some (vI (S cM_arrived u (ix (3 : Int32)))), some (vI ((S cM_gone u (ix a1)) + (1 : Int32))), none, none, none], [])) (h' := (T, up3 (up3 (up3 S cM_sackOf u (ix a1) (S cM_arrived u (ix (2 : Int32)))) cM_good u (ix ((2 : Int32) * a1)) (0 : Int32)) cM_good u (ix (((2 : Int32) * a1) + (1 : Int32))) (0 : Int32))) rfl ?_
      exact t_M_sack_72 scr u a1 (S cM_arrived u (ix (2 : Int32))) (S cM_arrived u (ix (3 : Int32))) ((S cM_gone u (ix a1)) + (1 : Int32)) (up3 (up3 (up3 S cM_sackOf u (ix a1) (S cM_arrived u (ix (2 : Int32)))) cM_good u (ix ((2 : Int32) * a1)) (0 : Int32)) cM_good u (ix (((2 : Int32) * a1) + (1 : Int32))) (0 : Int32)) T _ _ _ hx hG
-- M_hear
def f_M_hear_127 (S : St) : Option (St) :=
  some S
theorem t_M_hear_127 (scr : Nat × (Nat → Int32)) (S : St) (T : St) (d0 d1 d2 d3 d4 : Option iV) {x : St} {o : Option iV × SS} (hx : f_M_hear_127 S = some x) (hG : (fun x => (none, (T, x)) = o) x) : EB scr 3 1 0 cd_M_hear (127, [d0, d1, d2, d3, d4], []) (T, S) o := by
  unfold f_M_hear_127 at hx
  try dsimp only at hG
  refine ev_steps 1 (c' := (142, [_, _, _, _, _], [])) (h' := (T, S)) rfl ?_
  cases hx
  subst hG
  exact ev_ret rfl rfl
def f_M_hear (u : Nat) (a1 : Int32) (a2 : Int32) (a3 : Int32) (S : St) : Option (St) :=
  if a3 = (4 : Int32) then (bd (f_M_data u a1 a2 S) (fun S288 => some S288)) else (if a3 = (5 : Int32) then (bd (f_M_sack u a1 S) (fun S286 => some S286)) else (if a3 = (6 : Int32) then (if inb a1 2 = true then if inb (2 : Int32) 8 = true then bd (f_M_post u a1 a2 (S cM_other u (ix a1)) (7 : Int32) (S cM_arrived u (ix (2 : Int32))) (0 : Int32) S) (fun S284 => some S284) else none else none) else (if a3 = (7 : Int32) then (if inb (((2 : Int32) * a1) + a2) 4 = true then if (nz (S cM_beating u (ix (((2 : Int32) * a1) + a2)))) = 0 then f_M_hear_127 S else (if inb (((2 : Int32) * a1) + a2) 4 = true then if inb (2 : Int32) 8 = true then if (S cM_beat u (ix (((2 : Int32) * a1) + a2))) = (S cM_arrived u (ix (2 : Int32))) then (if inb (((2 : Int32) * a1) + a2) 4 = true then if inb (((2 : Int32) * a1) + a2) 4 = true then if inb (((2 : Int32) * a1) + a2) 4 = true then if inb a1 2 = true then f_M_hear_127 (up3 (up3 (up3 (up3 S cM_beating u (ix (((2 : Int32) * a1) + a2)) (0 : Int32)) cM_active u (ix (((2 : Int32) * a1) + a2)) (1 : Int32)) cM_errors u (ix (((2 : Int32) * a1) + a2)) (0 : Int32)) cM_allErrors u (ix a1) (0 : Int32)) else none else none else none else none) else f_M_hear_127 S else none else none) else none) else (if a3 = (8 : Int32) then (bd (f_M_close u a1 (3 : Int32) S) (fun S282 => some S282)) else some S))))
theorem t_M_hear (scr : Nat × (Nat → Int32)) (u : Nat) (a1 : Int32) (a2 : Int32) (a3 : Int32) (S T : St) {x : St} {o : Option iV × SS} (hx : f_M_hear u a1 a2 a3 S = some x) (hG : (none, (T, x)) = o) : E0 scr 4 52 [vR 1 u, vI a1, vI a2, vI a3] (T, S) o := by
  refine ev_meth (ls := [some (vR 1 u), some (vI a1), some (vI a2), some (vI a3), none]) rfl rfl rfl ?_
  unfold f_M_hear at hx
  refine ev_steps 2 (c' := (2, [some (vR 1 u), some (vI a1), some (vI a2), some (vI a3), none], [vI (4 : Int32), vI a3])) (h' := (T, S)) rfl ?_
  refine ev_icmp_ne rfl (fun hc => ?_) (fun hc => ?_)
  · rw [if_pos hc] at hx
    refine ev_steps 3 (c' := (8, [some (vR 1 u), some (vI a1), some (vI a2), some (vI a3), none], [vI a2, vI a1, vR 1 u])) (h' := (T, S)) rfl ?_
    obtain ⟨S288, hc, hx⟩ := bd_some hx
    refine ev_call rfl rfl rfl rfl rfl rfl rfl rfl rfl ((t_M_data scr u a1 a2 S T hc rfl).mono (by decide)) ?_
    refine ev_steps 1 (c' := (142, [some (vR 1 u), some (vI a1), some (vI a2), some (vI a3), none], [])) (h' := (T, S288)) rfl ?_
    cases hx
    subst hG
    exact ev_ret rfl rfl
  · rw [if_neg hc] at hx
    refine ev_steps 2 (c' := (16, [some (vR 1 u), some (vI a1), some (vI a2), some (vI a3), none], [vI (5 : Int32), vI a3])) (h' := (T, S)) rfl ?_
    refine ev_icmp_ne rfl (fun hc => ?_) (fun hc => ?_)
    · rw [if_pos hc] at hx
      refine ev_steps 2 (c' := (21, [some (vR 1 u), some (vI a1), some (vI a2), some (vI a3), none], [vI a1, vR 1 u])) (h' := (T, S)) rfl ?_
      obtain ⟨S286, hc, hx⟩ := bd_some hx
      refine ev_call rfl rfl rfl rfl rfl rfl rfl rfl rfl ((t_M_sack scr u a1 S T hc rfl).mono (by decide)) ?_
      refine ev_steps 1 (c' := (142, [some (vR 1 u), some (vI a1), some (vI a2), some (vI a3), none], [])) (h' := (T, S286)) rfl ?_
      cases hx
      subst hG
      exact ev_ret rfl rfl
    · rw [if_neg hc] at hx
      refine ev_steps 2 (c' := (30, [some (vR 1 u), some (vI a1), some (vI a2), some (vI a3), none], [vI (6 : Int32), vI a3])) (h' := (T, S)) rfl ?_
      refine ev_icmp_ne rfl (fun hc => ?_) (fun hc => ?_)
      · rw [if_pos hc] at hx
        refine ev_steps 6 (c' := (41, [some (vR 1 u), some (vI a1), some (vI a2), some (vI a3), none], [vI a1, vR 81 u, vI a2, vI a1, vR 1 u])) (h' := (T, S)) rfl ?_
        obtain ⟨hg, hx⟩ := ifg hx
        refine ev_iald rfl rfl rfl hg ?_
        refine ev_steps 4 (c' := (49, [some (vR 1 u), some (vI a1), some (vI a2), some (vI a3), none], [vI (2 : Int32), vR 78 u, vI (7 : Int32), vI (S cM_other u (ix a1)), vI a2, vI a1, vR 1 u])) (h' := (T, S)) rfl ?_
        obtain ⟨hg, hx⟩ := ifg hx
        refine ev_iald rfl rfl rfl hg ?_
        refine ev_steps 1 (c' := (51, [some (vR 1 u), some (vI a1), some (vI a2), some (vI a3), none], [vI (0 : Int32), vI (S cM_arrived u (ix (2 : Int32))), vI (7 : Int32), vI (S cM_other u (ix a1)), vI a2, vI a1, vR 1 u])) (h' := (T, S)) rfl ?_
        obtain ⟨S284, hc, hx⟩ := bd_some hx
        refine ev_call rfl rfl rfl rfl rfl rfl rfl rfl rfl ((t_M_post scr u a1 a2 (S cM_other u (ix a1)) (7 : Int32) (S cM_arrived u (ix (2 : Int32))) (0 : Int32) S T hc rfl).mono (by decide)) ?_
        refine ev_steps 1 (c' := (142, [some (vR 1 u), some (vI a1), some (vI a2), some (vI a3), none], [])) (h' := (T, S284)) rfl ?_
        cases hx
        subst hG
        exact ev_ret rfl rfl
      · rw [if_neg hc] at hx
        refine ev_steps 2 (c' := (60, [some (vR 1 u), some (vI a1), some (vI a2), some (vI a3), none], [vI (7 : Int32), vI a3])) (h' := (T, S)) rfl ?_
        refine ev_icmp_ne rfl (fun hc => ?_) (fun hc => ?_)
        · rw [if_pos hc] at hx
          refine ev_steps 9 (c' := (76, [some (vR 1 u), some (vI a1), some (vI a2), some (vI a3), some (vI (((2 : Int32) * a1) + a2))], [vI (((2 : Int32) * a1) + a2), vR 97 u])) (h' := (T, S)) rfl ?_
          obtain ⟨hg, hx⟩ := ifg hx
          refine ev_bald rfl rfl hg ?_
          refine ev_steps 0 (c' := (77, [some (vR 1 u), some (vI a1), some (vI a2), some (vI a3), some (vI (((2 : Int32) * a1) + a2))], [vI (nz (S cM_beating u (ix (((2 : Int32) * a1) + a2))))])) (h' := (T, S)) rfl ?_
          refine ev_if_eq rfl (fun hc => ?_) (fun hc => ?_)
          · rw [if_pos hc] at hx
            exact t_M_hear_127 scr S T _ _ _ _ _ hx hG
          · rw [if_neg hc] at hx
            refine ev_steps 3 (c' := (86, [some (vR 1 u), some (vI a1), some (vI a2), some (vI a3), some (vI (((2 : Int32) * a1) + a2))], [vI (((2 : Int32) * a1) + a2), vR 98 u])) (h' := (T, S)) rfl ?_
            obtain ⟨hg, hx⟩ := ifg hx
            refine ev_iald rfl rfl rfl hg ?_
            refine ev_steps 3 (c' := (92, [some (vR 1 u), some (vI a1), some (vI a2), some (vI a3), some (vI (((2 : Int32) * a1) + a2))], [vI (2 : Int32), vR 78 u, vI (S cM_beat u (ix (((2 : Int32) * a1) + a2)))])) (h' := (T, S)) rfl ?_
            obtain ⟨hg, hx⟩ := ifg hx
            refine ev_iald rfl rfl rfl hg ?_
            refine ev_steps 0 (c' := (93, [some (vR 1 u), some (vI a1), some (vI a2), some (vI a3), some (vI (((2 : Int32) * a1) + a2))], [vI (S cM_arrived u (ix (2 : Int32))), vI (S cM_beat u (ix (((2 : Int32) * a1) + a2)))])) (h' := (T, S)) rfl ?_
            refine ev_icmp_ne rfl (fun hc => ?_) (fun hc => ?_)
            · rw [if_pos hc] at hx
              refine ev_steps 4 (c' := (103, [some (vR 1 u), some (vI a1), some (vI a2), some (vI a3), some (vI (((2 : Int32) * a1) + a2))], [vI (0 : Int32), vI (((2 : Int32) * a1) + a2), vR 97 u])) (h' := (T, S)) rfl ?_
              obtain ⟨hg, hx⟩ := ifg hx
              refine ev_bast rfl rfl hg rfl ?_
              refine ev_steps 4 (c' := (111, [some (vR 1 u), some (vI a1), some (vI a2), some (vI a3), some (vI (((2 : Int32) * a1) + a2))], [vI (1 : Int32), vI (((2 : Int32) * a1) + a2), vR 91 u])) (h' := (T, up3 S cM_beating u (ix (((2 : Int32) * a1) + a2)) (0 : Int32))) rfl ?_
              obtain ⟨hg, hx⟩ := ifg hx
              refine ev_bast rfl rfl hg rfl ?_
              refine ev_steps 4 (c' := (119, [some (vR 1 u), some (vI a1), some (vI a2), some (vI a3), some (vI (((2 : Int32) * a1) + a2))], [vI (0 : Int32), vI (((2 : Int32) * a1) + a2), vR 94 u])) (h' := (T, up3 (up3 S cM_beating u (ix (((2 : Int32) * a1) + a2)) (0 : Int32)) cM_active u (ix (((2 : Int32) * a1) + a2)) (1 : Int32))) rfl ?_
              obtain ⟨hg, hx⟩ := ifg hx
              refine ev_iast rfl rfl hg ?_
              refine ev_steps 4 (c' := (126, [some (vR 1 u), some (vI a1), some (vI a2), some (vI a3), some (vI (((2 : Int32) * a1) + a2))], [vI (0 : Int32), vI a1, vR 89 u])) (h' := (T, up3 (up3 (up3 S cM_beating u (ix (((2 : Int32) * a1) + a2)) (0 : Int32)) cM_active u (ix (((2 : Int32) * a1) + a2)) (1 : Int32)) cM_errors u (ix (((2 : Int32) * a1) + a2)) (0 : Int32))) rfl ?_
              obtain ⟨hg, hx⟩ := ifg hx
              refine ev_iast rfl rfl hg ?_
              refine ev_steps 0 (c' := (127, [some (vR 1 u), some (vI a1), some (vI a2), some (vI a3), some (vI (((2 : Int32) * a1) + a2))], [])) (h' := (T, up3 (up3 (up3 (up3 S cM_beating u (ix (((2 : Int32) * a1) + a2)) (0 : Int32)) cM_active u (ix (((2 : Int32) * a1) + a2)) (1 : Int32)) cM_errors u (ix (((2 : Int32) * a1) + a2)) (0 : Int32)) cM_allErrors u (ix a1) (0 : Int32))) rfl ?_
              exact t_M_hear_127 scr (up3 (up3 (up3 (up3 S cM_beating u (ix (((2 : Int32) * a1) + a2)) (0 : Int32)) cM_active u (ix (((2 : Int32) * a1) + a2)) (1 : Int32)) cM_errors u (ix (((2 : Int32) * a1) + a2)) (0 : Int32)) cM_allErrors u (ix a1) (0 : Int32)) T _ _ _ _ _ hx hG
            · rw [if_neg hc] at hx
              exact t_M_hear_127 scr S T _ _ _ _ _ hx hG
        · rw [if_neg hc] at hx
          refine ev_steps 2 (c' := (133, [some (vR 1 u), some (vI a1), some (vI a2), some (vI a3), none], [vI (8 : Int32), vI a3])) (h' := (T, S)) rfl ?_
          refine ev_icmp_ne rfl (fun hc => ?_) (fun hc => ?_)
          · rw [if_pos hc] at hx
            refine ev_steps 3 (c' := (139, [some (vR 1 u), some (vI a1), some (vI a2), some (vI a3), none], [vI (3 : Int32), vI a1, vR 1 u])) (h' := (T, S)) rfl ?_
            obtain ⟨S282, hc, hx⟩ := bd_some hx
            refine ev_call rfl rfl rfl rfl rfl rfl rfl rfl rfl ((t_M_close scr u a1 (3 : Int32) S T hc rfl).mono (by decide)) ?_
            refine ev_steps 0 (c' := (142, [some (vR 1 u), some (vI a1), some (vI a2), some (vI a3), none], [])) (h' := (T, S282)) rfl ?_
            cases hx
            subst hG
            exact ev_ret rfl rfl
          · rw [if_neg hc] at hx
            cases hx
            subst hG
            exact ev_ret rfl rfl
