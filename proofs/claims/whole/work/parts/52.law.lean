/-! Methods as functions on the store, printed by a program. -/
-- Law_law
def f_Law_law_727 (scr : Nat × (Nat → Int32)) (l0 : Nat) (l1 : Nat) (l2 : Nat) (l3 : Int32) (S : St) (T : St) : Option ((Int32 × St × St) ⊕ (Int32 × St × St)) :=
  some (Sum.inl (l3 + (8 : Int32), S, T))
set_option maxRecDepth 100000 in
theorem t_Law_law_727 (scr : Nat × (Nat → Int32)) (l0 : Nat) (l1 : Nat) (l2 : Nat) (l3 : Int32) (S : St) (T : St) {x : (Int32 × St × St) ⊕ (Int32 × St × St)} {o : Option iV × SS} (hx : f_Law_law_727 scr l0 l1 l2 l3 S T = some x) (hG : (Sum.elim (fun q => EB scr 8 13 2 cd_Law_law (48, [some (vR 63 l0), some (vR 0 l1), some (vR 1 l2), some (vI q.1)], []) (q.2.1, q.2.2) o) (fun x => (some (vI x.1), (x.2.1, x.2.2)) = o)) x) : EB scr 8 13 2 cd_Law_law (727, [some (vR 63 l0), some (vR 0 l1), some (vR 1 l2), some (vI l3)], []) (S, T) o := by
  unfold f_Law_law_727 at hx
  try dsimp only at hG
  refine ev_steps 2 (c' := (48, [some (vR 63 l0), some (vR 0 l1), some (vR 1 l2), some (vI (l3 + (8 : Int32)))], [])) (h' := (S, T)) rfl ?_
  cases hx
  exact hG
def f_Law_law_220 (scr : Nat × (Nat → Int32)) (l0 : Nat) (l1 : Nat) (l2 : Nat) (l3 : Int32) (s0 : Int32) (s1 : Nat) (s2 : Int32) (s3 : Int32) (s4 : Int32) (S : St) (T : St) : Option ((Int32 × St × St) ⊕ (Int32 × St × St)) :=
  if inb (l3 + (4 : Int32)) scr.1 = true then if inb (l3 + (5 : Int32)) scr.1 = true then bd2 (f_M_send s1 s2 s3 s4 (scr.2 (ix (l3 + (4 : Int32)))) (scr.2 (ix (l3 + (5 : Int32)))) T) (fun r347 S348 => if s0 = r347 then f_Law_law_727 scr l0 l1 l2 l3 S S348 else exW (some ((0 : Int32), S, S348))) else none else none
set_option maxRecDepth 100000 in
theorem t_Law_law_220 (scr : Nat × (Nat → Int32)) (l0 : Nat) (l1 : Nat) (l2 : Nat) (l3 : Int32) (s0 : Int32) (s1 : Nat) (s2 : Int32) (s3 : Int32) (s4 : Int32) (S : St) (T : St) {x : (Int32 × St × St) ⊕ (Int32 × St × St)} {o : Option iV × SS} (hx : f_Law_law_220 scr l0 l1 l2 l3 s0 s1 s2 s3 s4 S T = some x) (hG : (Sum.elim (fun q => EB scr 8 13 2 cd_Law_law (48, [some (vR 63 l0), some (vR 0 l1), some (vR 1 l2), some (vI q.1)], []) (q.2.1, q.2.2) o) (fun x => (some (vI x.1), (x.2.1, x.2.2)) = o)) x) : EB scr 8 13 2 cd_Law_law (220, [some (vR 63 l0), some (vR 0 l1), some (vR 1 l2), some (vI l3)], [vI s4, vI s3, vI s2, vR 1 s1, vI s0]) (S, T) o := by
  unfold f_Law_law_220 at hx
  try dsimp only at hG
  refine ev_steps 4 (c' := (224, [some (vR 63 l0), some (vR 0 l1), some (vR 1 l2), some (vI l3)], [vI (l3 + (4 : Int32)), vR 63 l0, vI s4, vI s3, vI s2, vR 1 s1, vI s0])) (h' := (S, T)) rfl ?_
  obtain ⟨hg, hx⟩ := ifg hx
  refine ev_iscr rfl hg ?_
  refine ev_steps 4 (c' := (229, [some (vR 63 l0), some (vR 0 l1), some (vR 1 l2), some (vI l3)], [vI (l3 + (5 : Int32)), vR 63 l0, vI (scr.2 (ix (l3 + (4 : Int32)))), vI s4, vI s3, vI s2, vR 1 s1, vI s0])) (h' := (S, T)) rfl ?_
  obtain ⟨hg, hx⟩ := ifg hx
  refine ev_iscr rfl hg ?_
  refine ev_steps 0 (c' := (230, [some (vR 63 l0), some (vR 0 l1), some (vR 1 l2), some (vI l3)], [vI (scr.2 (ix (l3 + (5 : Int32)))), vI (scr.2 (ix (l3 + (4 : Int32)))), vI s4, vI s3, vI s2, vR 1 s1, vI s0])) (h' := (S, T)) rfl ?_
  obtain ⟨r347, S348, hc, hx⟩ := bd2_some hx
  refine ev_call rfl rfl rfl rfl rfl rfl rfl rfl rfl ((t_M_send scr s1 s2 s3 s4 (scr.2 (ix (l3 + (4 : Int32)))) (scr.2 (ix (l3 + (5 : Int32)))) T S hc rfl).mono (by decide)) ?_
  refine ev_steps 0 (c' := (233, [some (vR 63 l0), some (vR 0 l1), some (vR 1 l2), some (vI l3)], [vI r347, vI s0])) (h' := (S, S348)) rfl ?_
  refine ev_icmp_eq rfl (fun hc => ?_) (fun hc => ?_)
  · rw [if_pos hc] at hx
    exact t_Law_law_727 scr l0 l1 l2 l3 S S348 hx hG
  · rw [if_neg hc] at hx
    obtain ⟨x, hy, rfl⟩ := exW_some hx
    replace hx := hy
    simp only [Sum.elim_inr] at hG
    refine ev_steps 1 (c' := (237, [some (vR 63 l0), some (vR 0 l1), some (vR 1 l2), some (vI l3)], [vI (0 : Int32)])) (h' := (S, S348)) rfl ?_
    cases hx
    subst hG
    exact ev_ret rfl rfl
def f_Law_law_183 (scr : Nat × (Nat → Int32)) (l0 : Nat) (l1 : Nat) (l2 : Nat) (l3 : Int32) (s0 : Nat) (s1 : Int32) (s2 : Int32) (s3 : Int32) (S : St) (T : St) : Option ((Int32 × St × St) ⊕ (Int32 × St × St)) :=
  if inb (l3 + (4 : Int32)) scr.1 = true then if inb (l3 + (5 : Int32)) scr.1 = true then bd2 (f_L_send s0 s1 s2 s3 (scr.2 (ix (l3 + (4 : Int32)))) (scr.2 (ix (l3 + (5 : Int32)))) S) (fun r345 S346 => if inb (l3 + (1 : Int32)) scr.1 = true then if inb (l3 + (2 : Int32)) scr.1 = true then if inb (l3 + (3 : Int32)) scr.1 = true then if (scr.2 (ix (l3 + (3 : Int32)))) = 0 then f_Law_law_220 scr l0 l1 l2 l3 r345 l2 (scr.2 (ix (l3 + (1 : Int32)))) (scr.2 (ix (l3 + (2 : Int32)))) (0 : Int32) S346 T else f_Law_law_220 scr l0 l1 l2 l3 r345 l2 (scr.2 (ix (l3 + (1 : Int32)))) (scr.2 (ix (l3 + (2 : Int32)))) (1 : Int32) S346 T else none else none else none) else none else none
set_option maxRecDepth 100000 in
theorem t_Law_law_183 (scr : Nat × (Nat → Int32)) (l0 : Nat) (l1 : Nat) (l2 : Nat) (l3 : Int32) (s0 : Nat) (s1 : Int32) (s2 : Int32) (s3 : Int32) (S : St) (T : St) {x : (Int32 × St × St) ⊕ (Int32 × St × St)} {o : Option iV × SS} (hx : f_Law_law_183 scr l0 l1 l2 l3 s0 s1 s2 s3 S T = some x) (hG : (Sum.elim (fun q => EB scr 8 13 2 cd_Law_law (48, [some (vR 63 l0), some (vR 0 l1), some (vR 1 l2), some (vI q.1)], []) (q.2.1, q.2.2) o) (fun x => (some (vI x.1), (x.2.1, x.2.2)) = o)) x) : EB scr 8 13 2 cd_Law_law (183, [some (vR 63 l0), some (vR 0 l1), some (vR 1 l2), some (vI l3)], [vI s3, vI s2, vI s1, vR 0 s0]) (S, T) o := by
  unfold f_Law_law_183 at hx
  try dsimp only at hG
  refine ev_steps 4 (c' := (187, [some (vR 63 l0), some (vR 0 l1), some (vR 1 l2), some (vI l3)], [vI (l3 + (4 : Int32)), vR 63 l0, vI s3, vI s2, vI s1, vR 0 s0])) (h' := (S, T)) rfl ?_
  obtain ⟨hg, hx⟩ := ifg hx
  refine ev_iscr rfl hg ?_
  refine ev_steps 4 (c' := (192, [some (vR 63 l0), some (vR 0 l1), some (vR 1 l2), some (vI l3)], [vI (l3 + (5 : Int32)), vR 63 l0, vI (scr.2 (ix (l3 + (4 : Int32)))), vI s3, vI s2, vI s1, vR 0 s0])) (h' := (S, T)) rfl ?_
  obtain ⟨hg, hx⟩ := ifg hx
  refine ev_iscr rfl hg ?_
  refine ev_steps 0 (c' := (193, [some (vR 63 l0), some (vR 0 l1), some (vR 1 l2), some (vI l3)], [vI (scr.2 (ix (l3 + (5 : Int32)))), vI (scr.2 (ix (l3 + (4 : Int32)))), vI s3, vI s2, vI s1, vR 0 s0])) (h' := (S, T)) rfl ?_
  obtain ⟨r345, S346, hc, hx⟩ := bd2_some hx
  refine ev_call rfl rfl rfl rfl rfl rfl rfl rfl rfl ((t_L_send scr s0 s1 s2 s3 (scr.2 (ix (l3 + (4 : Int32)))) (scr.2 (ix (l3 + (5 : Int32)))) S T hc rfl).mono (by decide)) ?_
  refine ev_steps 5 (c' := (201, [some (vR 63 l0), some (vR 0 l1), some (vR 1 l2), some (vI l3)], [vI (l3 + (1 : Int32)), vR 63 l0, vR 1 l2, vI r345])) (h' := (S346, T)) rfl ?_
  obtain ⟨hg, hx⟩ := ifg hx
  refine ev_iscr rfl hg ?_
  refine ev_steps 4 (c' := (206, [some (vR 63 l0), some (vR 0 l1), some (vR 1 l2), some (vI l3)], [vI (l3 + (2 : Int32)), vR 63 l0, vI (scr.2 (ix (l3 + (1 : Int32)))), vR 1 l2, vI r345])) (h' := (S346, T)) rfl ?_
  obtain ⟨hg, hx⟩ := ifg hx
  refine ev_iscr rfl hg ?_
  refine ev_steps 4 (c' := (211, [some (vR 63 l0), some (vR 0 l1), some (vR 1 l2), some (vI l3)], [vI (l3 + (3 : Int32)), vR 63 l0, vI (scr.2 (ix (l3 + (2 : Int32)))), vI (scr.2 (ix (l3 + (1 : Int32)))), vR 1 l2, vI r345])) (h' := (S346, T)) rfl ?_
  obtain ⟨hg, hx⟩ := ifg hx
  refine ev_iscr rfl hg ?_
  refine ev_steps 0 (c' := (212, [some (vR 63 l0), some (vR 0 l1), some (vR 1 l2), some (vI l3)], [vI (scr.2 (ix (l3 + (3 : Int32)))), vI (scr.2 (ix (l3 + (2 : Int32)))), vI (scr.2 (ix (l3 + (1 : Int32)))), vR 1 l2, vI r345])) (h' := (S346, T)) rfl ?_
  refine ev_if_eq rfl (fun hc => ?_) (fun hc => ?_)
  · rw [if_pos hc] at hx
    refine ev_steps 1 (c' := (220, [some (vR 63 l0), some (vR 0 l1), some (vR 1 l2), some (vI l3)], [vI (0 : Int32), vI (scr.2 (ix (l3 + (2 : Int32)))), vI (scr.2 (ix (l3 + (1 : Int32)))), vR 1 l2, vI r345])) (h' := (S346, T)) rfl ?_
    exact t_Law_law_220 scr l0 l1 l2 l3 r345 l2 (scr.2 (ix (l3 + (1 : Int32)))) (scr.2 (ix (l3 + (2 : Int32)))) (0 : Int32) S346 T hx hG
  · rw [if_neg hc] at hx
    refine ev_steps 2 (c' := (220, [some (vR 63 l0), some (vR 0 l1), some (vR 1 l2), some (vI l3)], [vI (1 : Int32), vI (scr.2 (ix (l3 + (2 : Int32)))), vI (scr.2 (ix (l3 + (1 : Int32)))), vR 1 l2, vI r345])) (h' := (S346, T)) rfl ?_
    exact t_Law_law_220 scr l0 l1 l2 l3 r345 l2 (scr.2 (ix (l3 + (1 : Int32)))) (scr.2 (ix (l3 + (2 : Int32)))) (1 : Int32) S346 T hx hG
def f_Law_law_322 (scr : Nat × (Nat → Int32)) (l0 : Nat) (l1 : Nat) (l2 : Nat) (l3 : Int32) (s0 : Int32) (s1 : Nat) (s2 : Int32) (s3 : Int32) (s4 : Int32) (S : St) (T : St) : Option ((Int32 × St × St) ⊕ (Int32 × St × St)) :=
  bd2 (f_M_alter s1 s2 s3 s4 T) (fun r355 S356 => if s0 = r355 then f_Law_law_727 scr l0 l1 l2 l3 S S356 else exW (some ((0 : Int32), S, S356)))
set_option maxRecDepth 100000 in
theorem t_Law_law_322 (scr : Nat × (Nat → Int32)) (l0 : Nat) (l1 : Nat) (l2 : Nat) (l3 : Int32) (s0 : Int32) (s1 : Nat) (s2 : Int32) (s3 : Int32) (s4 : Int32) (S : St) (T : St) {x : (Int32 × St × St) ⊕ (Int32 × St × St)} {o : Option iV × SS} (hx : f_Law_law_322 scr l0 l1 l2 l3 s0 s1 s2 s3 s4 S T = some x) (hG : (Sum.elim (fun q => EB scr 8 13 2 cd_Law_law (48, [some (vR 63 l0), some (vR 0 l1), some (vR 1 l2), some (vI q.1)], []) (q.2.1, q.2.2) o) (fun x => (some (vI x.1), (x.2.1, x.2.2)) = o)) x) : EB scr 8 13 2 cd_Law_law (322, [some (vR 63 l0), some (vR 0 l1), some (vR 1 l2), some (vI l3)], [vI s4, vI s3, vI s2, vR 1 s1, vI s0]) (S, T) o := by
  unfold f_Law_law_322 at hx
  try dsimp only at hG
  obtain ⟨r355, S356, hc, hx⟩ := bd2_some hx
  refine ev_call rfl rfl rfl rfl rfl rfl rfl rfl rfl ((t_M_alter scr s1 s2 s3 s4 T S hc rfl).mono (by decide)) ?_
  refine ev_steps 0 (c' := (325, [some (vR 63 l0), some (vR 0 l1), some (vR 1 l2), some (vI l3)], [vI r355, vI s0])) (h' := (S, S356)) rfl ?_
  refine ev_icmp_eq rfl (fun hc => ?_) (fun hc => ?_)
  · rw [if_pos hc] at hx
    exact t_Law_law_727 scr l0 l1 l2 l3 S S356 hx hG
  · rw [if_neg hc] at hx
    obtain ⟨x, hy, rfl⟩ := exW_some hx
    replace hx := hy
    simp only [Sum.elim_inr] at hG
    refine ev_steps 1 (c' := (329, [some (vR 63 l0), some (vR 0 l1), some (vR 1 l2), some (vI l3)], [vI (0 : Int32)])) (h' := (S, S356)) rfl ?_
    cases hx
    subst hG
    exact ev_ret rfl rfl
def f_Law_law_295 (scr : Nat × (Nat → Int32)) (l0 : Nat) (l1 : Nat) (l2 : Nat) (l3 : Int32) (s0 : Nat) (s1 : Int32) (s2 : Int32) (s3 : Int32) (S : St) (T : St) : Option ((Int32 × St × St) ⊕ (Int32 × St × St)) :=
  bd2 (f_L_alter s0 s1 s2 s3 S) (fun r353 S354 => if inb (l3 + (1 : Int32)) scr.1 = true then if inb (l3 + (2 : Int32)) scr.1 = true then if inb (l3 + (3 : Int32)) scr.1 = true then if (scr.2 (ix (l3 + (3 : Int32)))) = 0 then f_Law_law_322 scr l0 l1 l2 l3 r353 l2 (scr.2 (ix (l3 + (1 : Int32)))) (scr.2 (ix (l3 + (2 : Int32)))) (0 : Int32) S354 T else f_Law_law_322 scr l0 l1 l2 l3 r353 l2 (scr.2 (ix (l3 + (1 : Int32)))) (scr.2 (ix (l3 + (2 : Int32)))) (1 : Int32) S354 T else none else none else none)
set_option maxRecDepth 100000 in
theorem t_Law_law_295 (scr : Nat × (Nat → Int32)) (l0 : Nat) (l1 : Nat) (l2 : Nat) (l3 : Int32) (s0 : Nat) (s1 : Int32) (s2 : Int32) (s3 : Int32) (S : St) (T : St) {x : (Int32 × St × St) ⊕ (Int32 × St × St)} {o : Option iV × SS} (hx : f_Law_law_295 scr l0 l1 l2 l3 s0 s1 s2 s3 S T = some x) (hG : (Sum.elim (fun q => EB scr 8 13 2 cd_Law_law (48, [some (vR 63 l0), some (vR 0 l1), some (vR 1 l2), some (vI q.1)], []) (q.2.1, q.2.2) o) (fun x => (some (vI x.1), (x.2.1, x.2.2)) = o)) x) : EB scr 8 13 2 cd_Law_law (295, [some (vR 63 l0), some (vR 0 l1), some (vR 1 l2), some (vI l3)], [vI s3, vI s2, vI s1, vR 0 s0]) (S, T) o := by
  unfold f_Law_law_295 at hx
  try dsimp only at hG
  obtain ⟨r353, S354, hc, hx⟩ := bd2_some hx
  refine ev_call rfl rfl rfl rfl rfl rfl rfl rfl rfl ((t_L_alter scr s0 s1 s2 s3 S T hc rfl).mono (by decide)) ?_
  refine ev_steps 5 (c' := (303, [some (vR 63 l0), some (vR 0 l1), some (vR 1 l2), some (vI l3)], [vI (l3 + (1 : Int32)), vR 63 l0, vR 1 l2, vI r353])) (h' := (S354, T)) rfl ?_
  obtain ⟨hg, hx⟩ := ifg hx
  refine ev_iscr rfl hg ?_
  refine ev_steps 4 (c' := (308, [some (vR 63 l0), some (vR 0 l1), some (vR 1 l2), some (vI l3)], [vI (l3 + (2 : Int32)), vR 63 l0, vI (scr.2 (ix (l3 + (1 : Int32)))), vR 1 l2, vI r353])) (h' := (S354, T)) rfl ?_
  obtain ⟨hg, hx⟩ := ifg hx
  refine ev_iscr rfl hg ?_
  refine ev_steps 4 (c' := (313, [some (vR 63 l0), some (vR 0 l1), some (vR 1 l2), some (vI l3)], [vI (l3 + (3 : Int32)), vR 63 l0, vI (scr.2 (ix (l3 + (2 : Int32)))), vI (scr.2 (ix (l3 + (1 : Int32)))), vR 1 l2, vI r353])) (h' := (S354, T)) rfl ?_
  obtain ⟨hg, hx⟩ := ifg hx
  refine ev_iscr rfl hg ?_
  refine ev_steps 0 (c' := (314, [some (vR 63 l0), some (vR 0 l1), some (vR 1 l2), some (vI l3)], [vI (scr.2 (ix (l3 + (3 : Int32)))), vI (scr.2 (ix (l3 + (2 : Int32)))), vI (scr.2 (ix (l3 + (1 : Int32)))), vR 1 l2, vI r353])) (h' := (S354, T)) rfl ?_
  refine ev_if_eq rfl (fun hc => ?_) (fun hc => ?_)
  · rw [if_pos hc] at hx
    refine ev_steps 1 (c' := (322, [some (vR 63 l0), some (vR 0 l1), some (vR 1 l2), some (vI l3)], [vI (0 : Int32), vI (scr.2 (ix (l3 + (2 : Int32)))), vI (scr.2 (ix (l3 + (1 : Int32)))), vR 1 l2, vI r353])) (h' := (S354, T)) rfl ?_
    exact t_Law_law_322 scr l0 l1 l2 l3 r353 l2 (scr.2 (ix (l3 + (1 : Int32)))) (scr.2 (ix (l3 + (2 : Int32)))) (0 : Int32) S354 T hx hG
  · rw [if_neg hc] at hx
    refine ev_steps 2 (c' := (322, [some (vR 63 l0), some (vR 0 l1), some (vR 1 l2), some (vI l3)], [vI (1 : Int32), vI (scr.2 (ix (l3 + (2 : Int32)))), vI (scr.2 (ix (l3 + (1 : Int32)))), vR 1 l2, vI r353])) (h' := (S354, T)) rfl ?_
    exact t_Law_law_322 scr l0 l1 l2 l3 r353 l2 (scr.2 (ix (l3 + (1 : Int32)))) (scr.2 (ix (l3 + (2 : Int32)))) (1 : Int32) S354 T hx hG
def f_Law_law_48_b (scr : Nat × (Nat → Int32)) (l0 : Nat) (l1 : Nat) (l2 : Nat)  : (Int32 × St × St) → Option ((Int32 × St × St) ⊕ (Int32 × St × St))
  | (l3, S, T) => if ((Int32.ofNat scr.1) - (8 : Int32)) < l3 then exW (some ((1 : Int32), S, T)) else (if inb l3 scr.1 = true then if ((scr.2 (ix l3)) &&& (15 : Int32)) = (0 : Int32) then (if inb (l3 + (1 : Int32)) scr.1 = true then bd2 (f_L_open l1 (scr.2 (ix (l3 + (1 : Int32)))) S) (fun r341 S342 => if inb (l3 + (1 : Int32)) scr.1 = true then bd2 (f_M_open l2 (scr.2 (ix (l3 + (1 : Int32)))) T) (fun r343 S344 => if r341 = r343 then f_Law_law_727 scr l0 l1 l2 l3 S342 S344 else exW (some ((0 : Int32), S342, S344))) else none) else none) else (if ((scr.2 (ix l3)) &&& (15 : Int32)) = (1 : Int32) then (if inb (l3 + (1 : Int32)) scr.1 = true then if inb (l3 + (2 : Int32)) scr.1 = true then if inb (l3 + (3 : Int32)) scr.1 = true then if (scr.2 (ix (l3 + (3 : Int32)))) = 0 then f_Law_law_183 scr l0 l1 l2 l3 l1 (scr.2 (ix (l3 + (1 : Int32)))) (scr.2 (ix (l3 + (2 : Int32)))) (0 : Int32) S T else f_Law_law_183 scr l0 l1 l2 l3 l1 (scr.2 (ix (l3 + (1 : Int32)))) (scr.2 (ix (l3 + (2 : Int32)))) (1 : Int32) S T else none else none else none) else (if ((scr.2 (ix l3)) &&& (15 : Int32)) = (2 : Int32) then (if inb (l3 + (1 : Int32)) scr.1 = true then if inb (l3 + (2 : Int32)) scr.1 = true then bd2 (f_L_deliver l1 (scr.2 (ix (l3 + (1 : Int32)))) (scr.2 (ix (l3 + (2 : Int32)))) S) (fun r349 S350 => if inb (l3 + (1 : Int32)) scr.1 = true then if inb (l3 + (2 : Int32)) scr.1 = true then bd2 (f_M_deliver l2 (scr.2 (ix (l3 + (1 : Int32)))) (scr.2 (ix (l3 + (2 : Int32)))) T) (fun r351 S352 => if r349 = r351 then f_Law_law_727 scr l0 l1 l2 l3 S350 S352 else exW (some ((0 : Int32), S350, S352))) else none else none) else none else none) else (if ((scr.2 (ix l3)) &&& (15 : Int32)) = (3 : Int32) then (if inb (l3 + (1 : Int32)) scr.1 = true then if inb (l3 + (2 : Int32)) scr.1 = true then if inb (l3 + (3 : Int32)) scr.1 = true then if (scr.2 (ix (l3 + (3 : Int32)))) = 0 then f_Law_law_295 scr l0 l1 l2 l3 l1 (scr.2 (ix (l3 + (1 : Int32)))) (scr.2 (ix (l3 + (2 : Int32)))) (0 : Int32) S T else f_Law_law_295 scr l0 l1 l2 l3 l1 (scr.2 (ix (l3 + (1 : Int32)))) (scr.2 (ix (l3 + (2 : Int32)))) (1 : Int32) S T else none else none else none) else (if ((scr.2 (ix l3)) &&& (15 : Int32)) = (4 : Int32) then (if inb (l3 + (1 : Int32)) scr.1 = true then if inb (l3 + (2 : Int32)) scr.1 = true then if inb (l3 + (3 : Int32)) scr.1 = true then if inb (l3 + (4 : Int32)) scr.1 = true then if inb (l3 + (5 : Int32)) scr.1 = true then if inb (l3 + (6 : Int32)) scr.1 = true then if inb (l3 + (7 : Int32)) scr.1 = true then bd2 (f_L_forge l1 (scr.2 (ix (l3 + (1 : Int32)))) (scr.2 (ix (l3 + (2 : Int32)))) (scr.2 (ix (l3 + (3 : Int32)))) (scr.2 (ix (l3 + (4 : Int32)))) (scr.2 (ix (l3 + (5 : Int32)))) (scr.2 (ix (l3 + (6 : Int32)))) (scr.2 (ix (l3 + (7 : Int32)))) S) (fun r357 S358 => if inb (l3 + (1 : Int32)) scr.1 = true then if inb (l3 + (2 : Int32)) scr.1 = true then if inb (l3 + (3 : Int32)) scr.1 = true then if inb (l3 + (4 : Int32)) scr.1 = true then if inb (l3 + (5 : Int32)) scr.1 = true then if inb (l3 + (6 : Int32)) scr.1 = true then if inb (l3 + (7 : Int32)) scr.1 = true then bd2 (f_M_forge l2 (scr.2 (ix (l3 + (1 : Int32)))) (scr.2 (ix (l3 + (2 : Int32)))) (scr.2 (ix (l3 + (3 : Int32)))) (scr.2 (ix (l3 + (4 : Int32)))) (scr.2 (ix (l3 + (5 : Int32)))) (scr.2 (ix (l3 + (6 : Int32)))) (scr.2 (ix (l3 + (7 : Int32)))) T) (fun r359 S360 => if r357 = r359 then f_Law_law_727 scr l0 l1 l2 l3 S358 S360 else exW (some ((0 : Int32), S358, S360))) else none else none else none else none else none else none else none) else none else none else none else none else none else none else none) else (if ((scr.2 (ix l3)) &&& (15 : Int32)) = (5 : Int32) then (bd2 (f_L_tick l1 S) (fun r361 S362 => bd2 (f_M_tick l2 T) (fun r363 S364 => if r361 = r363 then f_Law_law_727 scr l0 l1 l2 l3 S362 S364 else exW (some ((0 : Int32), S362, S364))))) else (if ((scr.2 (ix l3)) &&& (15 : Int32)) = (6 : Int32) then (if inb (l3 + (1 : Int32)) scr.1 = true then if inb (l3 + (2 : Int32)) scr.1 = true then bd2 (f_L_read l1 (scr.2 (ix (l3 + (1 : Int32)))) (scr.2 (ix (l3 + (2 : Int32)))) S) (fun r365 S366 => if inb (l3 + (1 : Int32)) scr.1 = true then if inb (l3 + (2 : Int32)) scr.1 = true then bd2 (f_M_read l2 (scr.2 (ix (l3 + (1 : Int32)))) (scr.2 (ix (l3 + (2 : Int32)))) T) (fun r367 S368 => if r365 = r367 then f_Law_law_727 scr l0 l1 l2 l3 S366 S368 else exW (some ((0 : Int32), S366, S368))) else none else none) else none else none) else (if ((scr.2 (ix l3)) &&& (15 : Int32)) = (7 : Int32) then (if inb (l3 + (1 : Int32)) scr.1 = true then if inb (l3 + (2 : Int32)) scr.1 = true then bd (f_L_ready l1 (scr.2 (ix (l3 + (1 : Int32)))) (scr.2 (ix (l3 + (2 : Int32)))) S) (fun r369 => if inb (l3 + (1 : Int32)) scr.1 = true then if inb (l3 + (2 : Int32)) scr.1 = true then bd (f_M_ready l2 (scr.2 (ix (l3 + (1 : Int32)))) (scr.2 (ix (l3 + (2 : Int32)))) T) (fun r371 => if r369 = r371 then f_Law_law_727 scr l0 l1 l2 l3 S T else exW (some ((0 : Int32), S, T))) else none else none) else none else none) else (if ((scr.2 (ix l3)) &&& (15 : Int32)) = (8 : Int32) then (if inb (l3 + (1 : Int32)) scr.1 = true then if inb (l3 + (2 : Int32)) scr.1 = true then bd (f_L_length l1 (scr.2 (ix (l3 + (1 : Int32)))) (scr.2 (ix (l3 + (2 : Int32)))) S) (fun r373 => if inb (l3 + (1 : Int32)) scr.1 = true then if inb (l3 + (2 : Int32)) scr.1 = true then bd (f_M_length l2 (scr.2 (ix (l3 + (1 : Int32)))) (scr.2 (ix (l3 + (2 : Int32)))) T) (fun r375 => if r373 = r375 then f_Law_law_727 scr l0 l1 l2 l3 S T else exW (some ((0 : Int32), S, T))) else none else none) else none else none) else (if ((scr.2 (ix l3)) &&& (15 : Int32)) = (9 : Int32) then (if inb (l3 + (1 : Int32)) scr.1 = true then bd2 (f_L_abort l1 (scr.2 (ix (l3 + (1 : Int32)))) S) (fun r377 S378 => if inb (l3 + (1 : Int32)) scr.1 = true then bd2 (f_M_abort l2 (scr.2 (ix (l3 + (1 : Int32)))) T) (fun r379 S380 => if r377 = r379 then f_Law_law_727 scr l0 l1 l2 l3 S378 S380 else exW (some ((0 : Int32), S378, S380))) else none) else none) else (if ((scr.2 (ix l3)) &&& (15 : Int32)) = (10 : Int32) then (if inb (l3 + (1 : Int32)) scr.1 = true then if inb (l3 + (2 : Int32)) scr.1 = true then bd2 (f_L_primary l1 (scr.2 (ix (l3 + (1 : Int32)))) (scr.2 (ix (l3 + (2 : Int32)))) S) (fun r381 S382 => if inb (l3 + (1 : Int32)) scr.1 = true then if inb (l3 + (2 : Int32)) scr.1 = true then bd2 (f_M_primary l2 (scr.2 (ix (l3 + (1 : Int32)))) (scr.2 (ix (l3 + (2 : Int32)))) T) (fun r383 S384 => if r381 = r383 then f_Law_law_727 scr l0 l1 l2 l3 S382 S384 else exW (some ((0 : Int32), S382, S384))) else none else none) else none else none) else (if ((scr.2 (ix l3)) &&& (15 : Int32)) = (11 : Int32) then (if inb (l3 + (1 : Int32)) scr.1 = true then if inb (l3 + (2 : Int32)) scr.1 = true then bd (f_L_about l1 (scr.2 (ix (l3 + (1 : Int32)))) (scr.2 (ix (l3 + (2 : Int32)))) S) (fun r385 => if inb (l3 + (1 : Int32)) scr.1 = true then if inb (l3 + (2 : Int32)) scr.1 = true then bd (f_M_about l2 (scr.2 (ix (l3 + (1 : Int32)))) (scr.2 (ix (l3 + (2 : Int32)))) T) (fun r387 => if r385 = r387 then f_Law_law_727 scr l0 l1 l2 l3 S T else exW (some ((0 : Int32), S, T))) else none else none) else none else none) else (if ((scr.2 (ix l3)) &&& (15 : Int32)) = (12 : Int32) then (if inb (l3 + (1 : Int32)) scr.1 = true then if inb (l3 + (2 : Int32)) scr.1 = true then if inb (l3 + (3 : Int32)) scr.1 = true then bd (f_L_path l1 (scr.2 (ix (l3 + (1 : Int32)))) (scr.2 (ix (l3 + (2 : Int32)))) (scr.2 (ix (l3 + (3 : Int32)))) S) (fun r389 => if inb (l3 + (1 : Int32)) scr.1 = true then if inb (l3 + (2 : Int32)) scr.1 = true then if inb (l3 + (3 : Int32)) scr.1 = true then bd (f_M_path l2 (scr.2 (ix (l3 + (1 : Int32)))) (scr.2 (ix (l3 + (2 : Int32)))) (scr.2 (ix (l3 + (3 : Int32)))) T) (fun r391 => if r389 = r391 then f_Law_law_727 scr l0 l1 l2 l3 S T else exW (some ((0 : Int32), S, T))) else none else none else none) else none else none else none) else (if ((scr.2 (ix l3)) &&& (15 : Int32)) = (13 : Int32) then (if inb (l3 + (1 : Int32)) scr.1 = true then if inb (l3 + (2 : Int32)) scr.1 = true then bd (f_L_waiting l1 (scr.2 (ix (l3 + (1 : Int32)))) (scr.2 (ix (l3 + (2 : Int32)))) S) (fun r393 => if inb (l3 + (1 : Int32)) scr.1 = true then if inb (l3 + (2 : Int32)) scr.1 = true then bd (f_M_waiting l2 (scr.2 (ix (l3 + (1 : Int32)))) (scr.2 (ix (l3 + (2 : Int32)))) T) (fun r395 => if r393 = r395 then f_Law_law_727 scr l0 l1 l2 l3 S T else exW (some ((0 : Int32), S, T))) else none else none) else none else none) else (if ((scr.2 (ix l3)) &&& (15 : Int32)) = (14 : Int32) then (if inb (l3 + (1 : Int32)) scr.1 = true then if inb (l3 + (2 : Int32)) scr.1 = true then bd (f_L_word l1 (scr.2 (ix (l3 + (1 : Int32)))) (scr.2 (ix (l3 + (2 : Int32)))) S) (fun r397 => if inb (l3 + (1 : Int32)) scr.1 = true then if inb (l3 + (2 : Int32)) scr.1 = true then bd (f_M_word l2 (scr.2 (ix (l3 + (1 : Int32)))) (scr.2 (ix (l3 + (2 : Int32)))) T) (fun r399 => if r397 = r399 then f_Law_law_727 scr l0 l1 l2 l3 S T else exW (some ((0 : Int32), S, T))) else none else none) else none else none) else f_Law_law_727 scr l0 l1 l2 l3 S T)))))))))))))) else none)
def f_Law_law_48 (scr : Nat × (Nat → Int32)) (l0 : Nat) (l1 : Nat) (l2 : Nat)  (q : Int32 × St × St) : Option (Int32 × St × St) := iter (f_Law_law_48_b scr l0 l1 l2) 4096 q
set_option maxRecDepth 100000 in
theorem t_Law_law_48_b (scr : Nat × (Nat → Int32)) (l0 : Nat) (l1 : Nat) (l2 : Nat) (l3 : Int32) (S : St) (T : St) {x : (Int32 × St × St) ⊕ (Int32 × St × St)} {o : Option iV × SS} (hx : f_Law_law_48_b scr l0 l1 l2 (l3, S, T) = some x) (hG : (Sum.elim (fun q => EB scr 8 13 2 cd_Law_law (48, [some (vR 63 l0), some (vR 0 l1), some (vR 1 l2), some (vI q.1)], []) (q.2.1, q.2.2) o) (fun x => (some (vI x.1), (x.2.1, x.2.2)) = o)) x) : EB scr 8 13 2 cd_Law_law (48, [some (vR 63 l0), some (vR 0 l1), some (vR 1 l2), some (vI l3)], []) (S, T) o := by
  unfold f_Law_law_48_b at hx
  dsimp only at hx
  refine ev_steps 5 (c' := (54, [some (vR 63 l0), some (vR 0 l1), some (vR 1 l2), some (vI l3)], [vI ((Int32.ofNat scr.1) - (8 : Int32)), vI l3])) (h' := (S, T)) rfl ?_
  refine ev_icmp_gt rfl (fun hc => ?_) (fun hc => ?_)
  · rw [if_pos hc] at hx
    obtain ⟨x, hy, rfl⟩ := exW_some hx
    replace hx := hy
    simp only [Sum.elim_inr] at hG
    refine ev_steps 1 (c' := (734, [some (vR 63 l0), some (vR 0 l1), some (vR 1 l2), some (vI l3)], [vI (1 : Int32)])) (h' := (S, T)) rfl ?_
    cases hx
    subst hG
    exact ev_ret rfl rfl
  · rw [if_neg hc] at hx
    refine ev_steps 2 (c' := (59, [some (vR 63 l0), some (vR 0 l1), some (vR 1 l2), some (vI l3)], [vI l3, vR 63 l0])) (h' := (S, T)) rfl ?_
    obtain ⟨hg, hx⟩ := ifg hx
    refine ev_iscr rfl hg ?_
    refine ev_steps 2 (c' := (63, [some (vR 63 l0), some (vR 0 l1), some (vR 1 l2), some (vI l3)], [vI ((scr.2 (ix l3)) &&& (15 : Int32))])) (h' := (S, T)) rfl ?_
    by_cases hc : ((scr.2 (ix l3)) &&& (15 : Int32)) = (0 : Int32)
    · rw [if_pos hc] at hx
      refine ev_swk (t := 136) rfl hc (by decide) ?_
      refine ev_steps 5 (c' := (141, [some (vR 63 l0), some (vR 0 l1), some (vR 1 l2), some (vI l3)], [vI (l3 + (1 : Int32)), vR 63 l0, vR 0 l1])) (h' := (S, T)) rfl ?_
      obtain ⟨hg, hx⟩ := ifg hx
      refine ev_iscr rfl hg ?_
      refine ev_steps 0 (c' := (142, [some (vR 63 l0), some (vR 0 l1), some (vR 1 l2), some (vI l3)], [vI (scr.2 (ix (l3 + (1 : Int32)))), vR 0 l1])) (h' := (S, T)) rfl ?_
      obtain ⟨r341, S342, hc, hx⟩ := bd2_some hx
      refine ev_call rfl rfl rfl rfl rfl rfl rfl rfl rfl ((t_L_open scr l1 (scr.2 (ix (l3 + (1 : Int32)))) S T hc rfl).mono (by decide)) ?_
      refine ev_steps 5 (c' := (150, [some (vR 63 l0), some (vR 0 l1), some (vR 1 l2), some (vI l3)], [vI (l3 + (1 : Int32)), vR 63 l0, vR 1 l2, vI r341])) (h' := (S342, T)) rfl ?_
      obtain ⟨hg, hx⟩ := ifg hx
      refine ev_iscr rfl hg ?_
      refine ev_steps 0 (c' := (151, [some (vR 63 l0), some (vR 0 l1), some (vR 1 l2), some (vI l3)], [vI (scr.2 (ix (l3 + (1 : Int32)))), vR 1 l2, vI r341])) (h' := (S342, T)) rfl ?_
      obtain ⟨r343, S344, hc, hx⟩ := bd2_some hx
      refine ev_call rfl rfl rfl rfl rfl rfl rfl rfl rfl ((t_M_open scr l2 (scr.2 (ix (l3 + (1 : Int32)))) T S342 hc rfl).mono (by decide)) ?_
      refine ev_steps 0 (c' := (154, [some (vR 63 l0), some (vR 0 l1), some (vR 1 l2), some (vI l3)], [vI r343, vI r341])) (h' := (S342, S344)) rfl ?_
      refine ev_icmp_eq rfl (fun hc => ?_) (fun hc => ?_)
      · rw [if_pos hc] at hx
        exact t_Law_law_727 scr l0 l1 l2 l3 S342 S344 hx hG
      · rw [if_neg hc] at hx
        obtain ⟨x, hy, rfl⟩ := exW_some hx
        replace hx := hy
        simp only [Sum.elim_inr] at hG
        refine ev_steps 1 (c' := (158, [some (vR 63 l0), some (vR 0 l1), some (vR 1 l2), some (vI l3)], [vI (0 : Int32)])) (h' := (S342, S344)) rfl ?_
        cases hx
        subst hG
        exact ev_ret rfl rfl
    rw [if_neg hc] at hx
    have hn0 := hc
    clear hc
    by_cases hc : ((scr.2 (ix l3)) &&& (15 : Int32)) = (1 : Int32)
    · rw [if_pos hc] at hx
      refine ev_swk (t := 159) rfl hc (by decide) ?_
      refine ev_steps 5 (c' := (164, [some (vR 63 l0), some (vR 0 l1), some (vR 1 l2), some (vI l3)], [vI (l3 + (1 : Int32)), vR 63 l0, vR 0 l1])) (h' := (S, T)) rfl ?_
      obtain ⟨hg, hx⟩ := ifg hx
      refine ev_iscr rfl hg ?_
      refine ev_steps 4 (c' := (169, [some (vR 63 l0), some (vR 0 l1), some (vR 1 l2), some (vI l3)], [vI (l3 + (2 : Int32)), vR 63 l0, vI (scr.2 (ix (l3 + (1 : Int32)))), vR 0 l1])) (h' := (S, T)) rfl ?_
      obtain ⟨hg, hx⟩ := ifg hx
      refine ev_iscr rfl hg ?_
      refine ev_steps 4 (c' := (174, [some (vR 63 l0), some (vR 0 l1), some (vR 1 l2), some (vI l3)], [vI (l3 + (3 : Int32)), vR 63 l0, vI (scr.2 (ix (l3 + (2 : Int32)))), vI (scr.2 (ix (l3 + (1 : Int32)))), vR 0 l1])) (h' := (S, T)) rfl ?_
      obtain ⟨hg, hx⟩ := ifg hx
      refine ev_iscr rfl hg ?_
      refine ev_steps 0 (c' := (175, [some (vR 63 l0), some (vR 0 l1), some (vR 1 l2), some (vI l3)], [vI (scr.2 (ix (l3 + (3 : Int32)))), vI (scr.2 (ix (l3 + (2 : Int32)))), vI (scr.2 (ix (l3 + (1 : Int32)))), vR 0 l1])) (h' := (S, T)) rfl ?_
      refine ev_if_eq rfl (fun hc => ?_) (fun hc => ?_)
      · rw [if_pos hc] at hx
        refine ev_steps 1 (c' := (183, [some (vR 63 l0), some (vR 0 l1), some (vR 1 l2), some (vI l3)], [vI (0 : Int32), vI (scr.2 (ix (l3 + (2 : Int32)))), vI (scr.2 (ix (l3 + (1 : Int32)))), vR 0 l1])) (h' := (S, T)) rfl ?_
        exact t_Law_law_183 scr l0 l1 l2 l3 l1 (scr.2 (ix (l3 + (1 : Int32)))) (scr.2 (ix (l3 + (2 : Int32)))) (0 : Int32) S T hx hG
      · rw [if_neg hc] at hx
        refine ev_steps 2 (c' := (183, [some (vR 63 l0), some (vR 0 l1), some (vR 1 l2), some (vI l3)], [vI (1 : Int32), vI (scr.2 (ix (l3 + (2 : Int32)))), vI (scr.2 (ix (l3 + (1 : Int32)))), vR 0 l1])) (h' := (S, T)) rfl ?_
        exact t_Law_law_183 scr l0 l1 l2 l3 l1 (scr.2 (ix (l3 + (1 : Int32)))) (scr.2 (ix (l3 + (2 : Int32)))) (1 : Int32) S T hx hG
    rw [if_neg hc] at hx
    have hn1 := hc
    clear hc
    by_cases hc : ((scr.2 (ix l3)) &&& (15 : Int32)) = (2 : Int32)
    · rw [if_pos hc] at hx
      refine ev_swk (t := 238) rfl hc (by decide) ?_
      refine ev_steps 5 (c' := (243, [some (vR 63 l0), some (vR 0 l1), some (vR 1 l2), some (vI l3)], [vI (l3 + (1 : Int32)), vR 63 l0, vR 0 l1])) (h' := (S, T)) rfl ?_
      obtain ⟨hg, hx⟩ := ifg hx
      refine ev_iscr rfl hg ?_
      refine ev_steps 4 (c' := (248, [some (vR 63 l0), some (vR 0 l1), some (vR 1 l2), some (vI l3)], [vI (l3 + (2 : Int32)), vR 63 l0, vI (scr.2 (ix (l3 + (1 : Int32)))), vR 0 l1])) (h' := (S, T)) rfl ?_
      obtain ⟨hg, hx⟩ := ifg hx
      refine ev_iscr rfl hg ?_
      refine ev_steps 0 (c' := (249, [some (vR 63 l0), some (vR 0 l1), some (vR 1 l2), some (vI l3)], [vI (scr.2 (ix (l3 + (2 : Int32)))), vI (scr.2 (ix (l3 + (1 : Int32)))), vR 0 l1])) (h' := (S, T)) rfl ?_
      obtain ⟨r349, S350, hc, hx⟩ := bd2_some hx
      refine ev_call rfl rfl rfl rfl rfl rfl rfl rfl rfl ((t_L_deliver scr l1 (scr.2 (ix (l3 + (1 : Int32)))) (scr.2 (ix (l3 + (2 : Int32)))) S T hc rfl).mono (by decide)) ?_
      refine ev_steps 5 (c' := (257, [some (vR 63 l0), some (vR 0 l1), some (vR 1 l2), some (vI l3)], [vI (l3 + (1 : Int32)), vR 63 l0, vR 1 l2, vI r349])) (h' := (S350, T)) rfl ?_
      obtain ⟨hg, hx⟩ := ifg hx
      refine ev_iscr rfl hg ?_
      refine ev_steps 4 (c' := (262, [some (vR 63 l0), some (vR 0 l1), some (vR 1 l2), some (vI l3)], [vI (l3 + (2 : Int32)), vR 63 l0, vI (scr.2 (ix (l3 + (1 : Int32)))), vR 1 l2, vI r349])) (h' := (S350, T)) rfl ?_
      obtain ⟨hg, hx⟩ := ifg hx
      refine ev_iscr rfl hg ?_
      refine ev_steps 0 (c' := (263, [some (vR 63 l0), some (vR 0 l1), some (vR 1 l2), some (vI l3)], [vI (scr.2 (ix (l3 + (2 : Int32)))), vI (scr.2 (ix (l3 + (1 : Int32)))), vR 1 l2, vI r349])) (h' := (S350, T)) rfl ?_
      obtain ⟨r351, S352, hc, hx⟩ := bd2_some hx
      refine ev_call rfl rfl rfl rfl rfl rfl rfl rfl rfl ((t_M_deliver scr l2 (scr.2 (ix (l3 + (1 : Int32)))) (scr.2 (ix (l3 + (2 : Int32)))) T S350 hc rfl).mono (by decide)) ?_
      refine ev_steps 0 (c' := (266, [some (vR 63 l0), some (vR 0 l1), some (vR 1 l2), some (vI l3)], [vI r351, vI r349])) (h' := (S350, S352)) rfl ?_
      refine ev_icmp_eq rfl (fun hc => ?_) (fun hc => ?_)
      · rw [if_pos hc] at hx
        exact t_Law_law_727 scr l0 l1 l2 l3 S350 S352 hx hG
      · rw [if_neg hc] at hx
        obtain ⟨x, hy, rfl⟩ := exW_some hx
        replace hx := hy
        simp only [Sum.elim_inr] at hG
        refine ev_steps 1 (c' := (270, [some (vR 63 l0), some (vR 0 l1), some (vR 1 l2), some (vI l3)], [vI (0 : Int32)])) (h' := (S350, S352)) rfl ?_
        cases hx
        subst hG
        exact ev_ret rfl rfl
    rw [if_neg hc] at hx
    have hn2 := hc
    clear hc
    by_cases hc : ((scr.2 (ix l3)) &&& (15 : Int32)) = (3 : Int32)
    · rw [if_pos hc] at hx
      refine ev_swk (t := 271) rfl hc (by decide) ?_
      refine ev_steps 5 (c' := (276, [some (vR 63 l0), some (vR 0 l1), some (vR 1 l2), some (vI l3)], [vI (l3 + (1 : Int32)), vR 63 l0, vR 0 l1])) (h' := (S, T)) rfl ?_
      obtain ⟨hg, hx⟩ := ifg hx
      refine ev_iscr rfl hg ?_
      refine ev_steps 4 (c' := (281, [some (vR 63 l0), some (vR 0 l1), some (vR 1 l2), some (vI l3)], [vI (l3 + (2 : Int32)), vR 63 l0, vI (scr.2 (ix (l3 + (1 : Int32)))), vR 0 l1])) (h' := (S, T)) rfl ?_
      obtain ⟨hg, hx⟩ := ifg hx
      refine ev_iscr rfl hg ?_
      refine ev_steps 4 (c' := (286, [some (vR 63 l0), some (vR 0 l1), some (vR 1 l2), some (vI l3)], [vI (l3 + (3 : Int32)), vR 63 l0, vI (scr.2 (ix (l3 + (2 : Int32)))), vI (scr.2 (ix (l3 + (1 : Int32)))), vR 0 l1])) (h' := (S, T)) rfl ?_
      obtain ⟨hg, hx⟩ := ifg hx
      refine ev_iscr rfl hg ?_
      refine ev_steps 0 (c' := (287, [some (vR 63 l0), some (vR 0 l1), some (vR 1 l2), some (vI l3)], [vI (scr.2 (ix (l3 + (3 : Int32)))), vI (scr.2 (ix (l3 + (2 : Int32)))), vI (scr.2 (ix (l3 + (1 : Int32)))), vR 0 l1])) (h' := (S, T)) rfl ?_
      refine ev_if_eq rfl (fun hc => ?_) (fun hc => ?_)
      · rw [if_pos hc] at hx
        refine ev_steps 1 (c' := (295, [some (vR 63 l0), some (vR 0 l1), some (vR 1 l2), some (vI l3)], [vI (0 : Int32), vI (scr.2 (ix (l3 + (2 : Int32)))), vI (scr.2 (ix (l3 + (1 : Int32)))), vR 0 l1])) (h' := (S, T)) rfl ?_
        exact t_Law_law_295 scr l0 l1 l2 l3 l1 (scr.2 (ix (l3 + (1 : Int32)))) (scr.2 (ix (l3 + (2 : Int32)))) (0 : Int32) S T hx hG
      · rw [if_neg hc] at hx
        refine ev_steps 2 (c' := (295, [some (vR 63 l0), some (vR 0 l1), some (vR 1 l2), some (vI l3)], [vI (1 : Int32), vI (scr.2 (ix (l3 + (2 : Int32)))), vI (scr.2 (ix (l3 + (1 : Int32)))), vR 0 l1])) (h' := (S, T)) rfl ?_
        exact t_Law_law_295 scr l0 l1 l2 l3 l1 (scr.2 (ix (l3 + (1 : Int32)))) (scr.2 (ix (l3 + (2 : Int32)))) (1 : Int32) S T hx hG
    rw [if_neg hc] at hx
    have hn3 := hc
    clear hc
    by_cases hc : ((scr.2 (ix l3)) &&& (15 : Int32)) = (4 : Int32)
    · rw [if_pos hc] at hx
      refine ev_swk (t := 330) rfl hc (by decide) ?_
      refine ev_steps 5 (c' := (335, [some (vR 63 l0), some (vR 0 l1), some (vR 1 l2), some (vI l3)], [vI (l3 + (1 : Int32)), vR 63 l0, vR 0 l1])) (h' := (S, T)) rfl ?_
      obtain ⟨hg, hx⟩ := ifg hx
      refine ev_iscr rfl hg ?_
      refine ev_steps 4 (c' := (340, [some (vR 63 l0), some (vR 0 l1), some (vR 1 l2), some (vI l3)], [vI (l3 + (2 : Int32)), vR 63 l0, vI (scr.2 (ix (l3 + (1 : Int32)))), vR 0 l1])) (h' := (S, T)) rfl ?_
      obtain ⟨hg, hx⟩ := ifg hx
      refine ev_iscr rfl hg ?_
      refine ev_steps 4 (c' := (345, [some (vR 63 l0), some (vR 0 l1), some (vR 1 l2), some (vI l3)], [vI (l3 + (3 : Int32)), vR 63 l0, vI (scr.2 (ix (l3 + (2 : Int32)))), vI (scr.2 (ix (l3 + (1 : Int32)))), vR 0 l1])) (h' := (S, T)) rfl ?_
      obtain ⟨hg, hx⟩ := ifg hx
      refine ev_iscr rfl hg ?_
      refine ev_steps 4 (c' := (350, [some (vR 63 l0), some (vR 0 l1), some (vR 1 l2), some (vI l3)], [vI (l3 + (4 : Int32)), vR 63 l0, vI (scr.2 (ix (l3 + (3 : Int32)))), vI (scr.2 (ix (l3 + (2 : Int32)))), vI (scr.2 (ix (l3 + (1 : Int32)))), vR 0 l1])) (h' := (S, T)) rfl ?_
      obtain ⟨hg, hx⟩ := ifg hx
      refine ev_iscr rfl hg ?_
      refine ev_steps 4 (c' := (355, [some (vR 63 l0), some (vR 0 l1), some (vR 1 l2), some (vI l3)], [vI (l3 + (5 : Int32)), vR 63 l0, vI (scr.2 (ix (l3 + (4 : Int32)))), vI (scr.2 (ix (l3 + (3 : Int32)))), vI (scr.2 (ix (l3 + (2 : Int32)))), vI (scr.2 (ix (l3 + (1 : Int32)))), vR 0 l1])) (h' := (S, T)) rfl ?_
      obtain ⟨hg, hx⟩ := ifg hx
      refine ev_iscr rfl hg ?_
      refine ev_steps 4 (c' := (361, [some (vR 63 l0), some (vR 0 l1), some (vR 1 l2), some (vI l3)], [vI (l3 + (6 : Int32)), vR 63 l0, vI (scr.2 (ix (l3 + (5 : Int32)))), vI (scr.2 (ix (l3 + (4 : Int32)))), vI (scr.2 (ix (l3 + (3 : Int32)))), vI (scr.2 (ix (l3 + (2 : Int32)))), vI (scr.2 (ix (l3 + (1 : Int32)))), vR 0 l1])) (h' := (S, T)) rfl ?_
      obtain ⟨hg, hx⟩ := ifg hx
      refine ev_iscr rfl hg ?_
      refine ev_steps 4 (c' := (367, [some (vR 63 l0), some (vR 0 l1), some (vR 1 l2), some (vI l3)], [vI (l3 + (7 : Int32)), vR 63 l0, vI (scr.2 (ix (l3 + (6 : Int32)))), vI (scr.2 (ix (l3 + (5 : Int32)))), vI (scr.2 (ix (l3 + (4 : Int32)))), vI (scr.2 (ix (l3 + (3 : Int32)))), vI (scr.2 (ix (l3 + (2 : Int32)))), vI (scr.2 (ix (l3 + (1 : Int32)))), vR 0 l1])) (h' := (S, T)) rfl ?_
      obtain ⟨hg, hx⟩ := ifg hx
      refine ev_iscr rfl hg ?_
      refine ev_steps 0 (c' := (368, [some (vR 63 l0), some (vR 0 l1), some (vR 1 l2), some (vI l3)], [vI (scr.2 (ix (l3 + (7 : Int32)))), vI (scr.2 (ix (l3 + (6 : Int32)))), vI (scr.2 (ix (l3 + (5 : Int32)))), vI (scr.2 (ix (l3 + (4 : Int32)))), vI (scr.2 (ix (l3 + (3 : Int32)))), vI (scr.2 (ix (l3 + (2 : Int32)))), vI (scr.2 (ix (l3 + (1 : Int32)))), vR 0 l1])) (h' := (S, T)) rfl ?_
      obtain ⟨r357, S358, hc, hx⟩ := bd2_some hx
      refine ev_call rfl rfl rfl rfl rfl rfl rfl rfl rfl ((t_L_forge scr l1 (scr.2 (ix (l3 + (1 : Int32)))) (scr.2 (ix (l3 + (2 : Int32)))) (scr.2 (ix (l3 + (3 : Int32)))) (scr.2 (ix (l3 + (4 : Int32)))) (scr.2 (ix (l3 + (5 : Int32)))) (scr.2 (ix (l3 + (6 : Int32)))) (scr.2 (ix (l3 + (7 : Int32)))) S T hc rfl).mono (by decide)) ?_
      refine ev_steps 5 (c' := (376, [some (vR 63 l0), some (vR 0 l1), some (vR 1 l2), some (vI l3)], [vI (l3 + (1 : Int32)), vR 63 l0, vR 1 l2, vI r357])) (h' := (S358, T)) rfl ?_
      obtain ⟨hg, hx⟩ := ifg hx
      refine ev_iscr rfl hg ?_
      refine ev_steps 4 (c' := (381, [some (vR 63 l0), some (vR 0 l1), some (vR 1 l2), some (vI l3)], [vI (l3 + (2 : Int32)), vR 63 l0, vI (scr.2 (ix (l3 + (1 : Int32)))), vR 1 l2, vI r357])) (h' := (S358, T)) rfl ?_
      obtain ⟨hg, hx⟩ := ifg hx
      refine ev_iscr rfl hg ?_
      refine ev_steps 4 (c' := (386, [some (vR 63 l0), some (vR 0 l1), some (vR 1 l2), some (vI l3)], [vI (l3 + (3 : Int32)), vR 63 l0, vI (scr.2 (ix (l3 + (2 : Int32)))), vI (scr.2 (ix (l3 + (1 : Int32)))), vR 1 l2, vI r357])) (h' := (S358, T)) rfl ?_
      obtain ⟨hg, hx⟩ := ifg hx
      refine ev_iscr rfl hg ?_
      refine ev_steps 4 (c' := (391, [some (vR 63 l0), some (vR 0 l1), some (vR 1 l2), some (vI l3)], [vI (l3 + (4 : Int32)), vR 63 l0, vI (scr.2 (ix (l3 + (3 : Int32)))), vI (scr.2 (ix (l3 + (2 : Int32)))), vI (scr.2 (ix (l3 + (1 : Int32)))), vR 1 l2, vI r357])) (h' := (S358, T)) rfl ?_
      obtain ⟨hg, hx⟩ := ifg hx
      refine ev_iscr rfl hg ?_
      refine ev_steps 4 (c' := (396, [some (vR 63 l0), some (vR 0 l1), some (vR 1 l2), some (vI l3)], [vI (l3 + (5 : Int32)), vR 63 l0, vI (scr.2 (ix (l3 + (4 : Int32)))), vI (scr.2 (ix (l3 + (3 : Int32)))), vI (scr.2 (ix (l3 + (2 : Int32)))), vI (scr.2 (ix (l3 + (1 : Int32)))), vR 1 l2, vI r357])) (h' := (S358, T)) rfl ?_
      obtain ⟨hg, hx⟩ := ifg hx
      refine ev_iscr rfl hg ?_
      refine ev_steps 4 (c' := (402, [some (vR 63 l0), some (vR 0 l1), some (vR 1 l2), some (vI l3)], [vI (l3 + (6 : Int32)), vR 63 l0, vI (scr.2 (ix (l3 + (5 : Int32)))), vI (scr.2 (ix (l3 + (4 : Int32)))), vI (scr.2 (ix (l3 + (3 : Int32)))), vI (scr.2 (ix (l3 + (2 : Int32)))), vI (scr.2 (ix (l3 + (1 : Int32)))), vR 1 l2, vI r357])) (h' := (S358, T)) rfl ?_
      obtain ⟨hg, hx⟩ := ifg hx
      refine ev_iscr rfl hg ?_
      refine ev_steps 4 (c' := (408, [some (vR 63 l0), some (vR 0 l1), some (vR 1 l2), some (vI l3)], [vI (l3 + (7 : Int32)), vR 63 l0, vI (scr.2 (ix (l3 + (6 : Int32)))), vI (scr.2 (ix (l3 + (5 : Int32)))), vI (scr.2 (ix (l3 + (4 : Int32)))), vI (scr.2 (ix (l3 + (3 : Int32)))), vI (scr.2 (ix (l3 + (2 : Int32)))), vI (scr.2 (ix (l3 + (1 : Int32)))), vR 1 l2, vI r357])) (h' := (S358, T)) rfl ?_
      obtain ⟨hg, hx⟩ := ifg hx
      refine ev_iscr rfl hg ?_
      refine ev_steps 0 (c' := (409, [some (vR 63 l0), some (vR 0 l1), some (vR 1 l2), some (vI l3)], [vI (scr.2 (ix (l3 + (7 : Int32)))), vI (scr.2 (ix (l3 + (6 : Int32)))), vI (scr.2 (ix (l3 + (5 : Int32)))), vI (scr.2 (ix (l3 + (4 : Int32)))), vI (scr.2 (ix (l3 + (3 : Int32)))), vI (scr.2 (ix (l3 + (2 : Int32)))), vI (scr.2 (ix (l3 + (1 : Int32)))), vR 1 l2, vI r357])) (h' := (S358, T)) rfl ?_
      obtain ⟨r359, S360, hc, hx⟩ := bd2_some hx
      refine ev_call rfl rfl rfl rfl rfl rfl rfl rfl rfl ((t_M_forge scr l2 (scr.2 (ix (l3 + (1 : Int32)))) (scr.2 (ix (l3 + (2 : Int32)))) (scr.2 (ix (l3 + (3 : Int32)))) (scr.2 (ix (l3 + (4 : Int32)))) (scr.2 (ix (l3 + (5 : Int32)))) (scr.2 (ix (l3 + (6 : Int32)))) (scr.2 (ix (l3 + (7 : Int32)))) T S358 hc rfl).mono (by decide)) ?_
      refine ev_steps 0 (c' := (412, [some (vR 63 l0), some (vR 0 l1), some (vR 1 l2), some (vI l3)], [vI r359, vI r357])) (h' := (S358, S360)) rfl ?_
      refine ev_icmp_eq rfl (fun hc => ?_) (fun hc => ?_)
      · rw [if_pos hc] at hx
        exact t_Law_law_727 scr l0 l1 l2 l3 S358 S360 hx hG
      · rw [if_neg hc] at hx
        obtain ⟨x, hy, rfl⟩ := exW_some hx
        replace hx := hy
        simp only [Sum.elim_inr] at hG
        refine ev_steps 1 (c' := (416, [some (vR 63 l0), some (vR 0 l1), some (vR 1 l2), some (vI l3)], [vI (0 : Int32)])) (h' := (S358, S360)) rfl ?_
        cases hx
        subst hG
        exact ev_ret rfl rfl
    rw [if_neg hc] at hx
    have hn4 := hc
    clear hc
    by_cases hc : ((scr.2 (ix l3)) &&& (15 : Int32)) = (5 : Int32)
    · rw [if_pos hc] at hx
      refine ev_swk (t := 417) rfl hc (by decide) ?_
      refine ev_steps 1 (c' := (418, [some (vR 63 l0), some (vR 0 l1), some (vR 1 l2), some (vI l3)], [vR 0 l1])) (h' := (S, T)) rfl ?_
      obtain ⟨r361, S362, hc, hx⟩ := bd2_some hx
      refine ev_call rfl rfl rfl rfl rfl rfl rfl rfl rfl ((t_L_tick scr l1 S T hc rfl).mono (by decide)) ?_
      refine ev_steps 1 (c' := (422, [some (vR 63 l0), some (vR 0 l1), some (vR 1 l2), some (vI l3)], [vR 1 l2, vI r361])) (h' := (S362, T)) rfl ?_
      obtain ⟨r363, S364, hc, hx⟩ := bd2_some hx
      refine ev_call rfl rfl rfl rfl rfl rfl rfl rfl rfl ((t_M_tick scr l2 T S362 hc rfl).mono (by decide)) ?_
      refine ev_steps 0 (c' := (425, [some (vR 63 l0), some (vR 0 l1), some (vR 1 l2), some (vI l3)], [vI r363, vI r361])) (h' := (S362, S364)) rfl ?_
      refine ev_icmp_eq rfl (fun hc => ?_) (fun hc => ?_)
      · rw [if_pos hc] at hx
        exact t_Law_law_727 scr l0 l1 l2 l3 S362 S364 hx hG
      · rw [if_neg hc] at hx
        obtain ⟨x, hy, rfl⟩ := exW_some hx
        replace hx := hy
        simp only [Sum.elim_inr] at hG
        refine ev_steps 1 (c' := (429, [some (vR 63 l0), some (vR 0 l1), some (vR 1 l2), some (vI l3)], [vI (0 : Int32)])) (h' := (S362, S364)) rfl ?_
        cases hx
        subst hG
        exact ev_ret rfl rfl
    rw [if_neg hc] at hx
    have hn5 := hc
    clear hc
    by_cases hc : ((scr.2 (ix l3)) &&& (15 : Int32)) = (6 : Int32)
    · rw [if_pos hc] at hx
      refine ev_swk (t := 430) rfl hc (by decide) ?_
      refine ev_steps 5 (c' := (435, [some (vR 63 l0), some (vR 0 l1), some (vR 1 l2), some (vI l3)], [vI (l3 + (1 : Int32)), vR 63 l0, vR 0 l1])) (h' := (S, T)) rfl ?_
      obtain ⟨hg, hx⟩ := ifg hx
      refine ev_iscr rfl hg ?_
      refine ev_steps 4 (c' := (440, [some (vR 63 l0), some (vR 0 l1), some (vR 1 l2), some (vI l3)], [vI (l3 + (2 : Int32)), vR 63 l0, vI (scr.2 (ix (l3 + (1 : Int32)))), vR 0 l1])) (h' := (S, T)) rfl ?_
      obtain ⟨hg, hx⟩ := ifg hx
      refine ev_iscr rfl hg ?_
      refine ev_steps 0 (c' := (441, [some (vR 63 l0), some (vR 0 l1), some (vR 1 l2), some (vI l3)], [vI (scr.2 (ix (l3 + (2 : Int32)))), vI (scr.2 (ix (l3 + (1 : Int32)))), vR 0 l1])) (h' := (S, T)) rfl ?_
      obtain ⟨r365, S366, hc, hx⟩ := bd2_some hx
      refine ev_call rfl rfl rfl rfl rfl rfl rfl rfl rfl ((t_L_read scr l1 (scr.2 (ix (l3 + (1 : Int32)))) (scr.2 (ix (l3 + (2 : Int32)))) S T hc rfl).mono (by decide)) ?_
      refine ev_steps 5 (c' := (449, [some (vR 63 l0), some (vR 0 l1), some (vR 1 l2), some (vI l3)], [vI (l3 + (1 : Int32)), vR 63 l0, vR 1 l2, vI r365])) (h' := (S366, T)) rfl ?_
      obtain ⟨hg, hx⟩ := ifg hx
      refine ev_iscr rfl hg ?_
      refine ev_steps 4 (c' := (454, [some (vR 63 l0), some (vR 0 l1), some (vR 1 l2), some (vI l3)], [vI (l3 + (2 : Int32)), vR 63 l0, vI (scr.2 (ix (l3 + (1 : Int32)))), vR 1 l2, vI r365])) (h' := (S366, T)) rfl ?_
      obtain ⟨hg, hx⟩ := ifg hx
      refine ev_iscr rfl hg ?_
      refine ev_steps 0 (c' := (455, [some (vR 63 l0), some (vR 0 l1), some (vR 1 l2), some (vI l3)], [vI (scr.2 (ix (l3 + (2 : Int32)))), vI (scr.2 (ix (l3 + (1 : Int32)))), vR 1 l2, vI r365])) (h' := (S366, T)) rfl ?_
      obtain ⟨r367, S368, hc, hx⟩ := bd2_some hx
      refine ev_call rfl rfl rfl rfl rfl rfl rfl rfl rfl ((t_M_read scr l2 (scr.2 (ix (l3 + (1 : Int32)))) (scr.2 (ix (l3 + (2 : Int32)))) T S366 hc rfl).mono (by decide)) ?_
      refine ev_steps 0 (c' := (458, [some (vR 63 l0), some (vR 0 l1), some (vR 1 l2), some (vI l3)], [vI r367, vI r365])) (h' := (S366, S368)) rfl ?_
      refine ev_icmp_eq rfl (fun hc => ?_) (fun hc => ?_)
      · rw [if_pos hc] at hx
        exact t_Law_law_727 scr l0 l1 l2 l3 S366 S368 hx hG
      · rw [if_neg hc] at hx
        obtain ⟨x, hy, rfl⟩ := exW_some hx
        replace hx := hy
        simp only [Sum.elim_inr] at hG
        refine ev_steps 1 (c' := (462, [some (vR 63 l0), some (vR 0 l1), some (vR 1 l2), some (vI l3)], [vI (0 : Int32)])) (h' := (S366, S368)) rfl ?_
        cases hx
        subst hG
        exact ev_ret rfl rfl
    rw [if_neg hc] at hx
    have hn6 := hc
    clear hc
    by_cases hc : ((scr.2 (ix l3)) &&& (15 : Int32)) = (7 : Int32)
    · rw [if_pos hc] at hx
      refine ev_swk (t := 463) rfl hc (by decide) ?_
      refine ev_steps 5 (c' := (468, [some (vR 63 l0), some (vR 0 l1), some (vR 1 l2), some (vI l3)], [vI (l3 + (1 : Int32)), vR 63 l0, vR 0 l1])) (h' := (S, T)) rfl ?_
      obtain ⟨hg, hx⟩ := ifg hx
      refine ev_iscr rfl hg ?_
      refine ev_steps 4 (c' := (473, [some (vR 63 l0), some (vR 0 l1), some (vR 1 l2), some (vI l3)], [vI (l3 + (2 : Int32)), vR 63 l0, vI (scr.2 (ix (l3 + (1 : Int32)))), vR 0 l1])) (h' := (S, T)) rfl ?_
      obtain ⟨hg, hx⟩ := ifg hx
      refine ev_iscr rfl hg ?_
      refine ev_steps 0 (c' := (474, [some (vR 63 l0), some (vR 0 l1), some (vR 1 l2), some (vI l3)], [vI (scr.2 (ix (l3 + (2 : Int32)))), vI (scr.2 (ix (l3 + (1 : Int32)))), vR 0 l1])) (h' := (S, T)) rfl ?_
      obtain ⟨r369, hc, hx⟩ := bd_some hx
      refine ev_call rfl rfl rfl rfl rfl rfl rfl rfl rfl ((t_L_ready scr l1 (scr.2 (ix (l3 + (1 : Int32)))) (scr.2 (ix (l3 + (2 : Int32)))) S T hc rfl).mono (by decide)) ?_
      refine ev_steps 5 (c' := (482, [some (vR 63 l0), some (vR 0 l1), some (vR 1 l2), some (vI l3)], [vI (l3 + (1 : Int32)), vR 63 l0, vR 1 l2, vI r369])) (h' := (S, T)) rfl ?_
      obtain ⟨hg, hx⟩ := ifg hx
      refine ev_iscr rfl hg ?_
      refine ev_steps 4 (c' := (487, [some (vR 63 l0), some (vR 0 l1), some (vR 1 l2), some (vI l3)], [vI (l3 + (2 : Int32)), vR 63 l0, vI (scr.2 (ix (l3 + (1 : Int32)))), vR 1 l2, vI r369])) (h' := (S, T)) rfl ?_
      obtain ⟨hg, hx⟩ := ifg hx
      refine ev_iscr rfl hg ?_
      refine ev_steps 0 (c' := (488, [some (vR 63 l0), some (vR 0 l1), some (vR 1 l2), some (vI l3)], [vI (scr.2 (ix (l3 + (2 : Int32)))), vI (scr.2 (ix (l3 + (1 : Int32)))), vR 1 l2, vI r369])) (h' := (S, T)) rfl ?_
      obtain ⟨r371, hc, hx⟩ := bd_some hx
      refine ev_call rfl rfl rfl rfl rfl rfl rfl rfl rfl ((t_M_ready scr l2 (scr.2 (ix (l3 + (1 : Int32)))) (scr.2 (ix (l3 + (2 : Int32)))) T S hc rfl).mono (by decide)) ?_
      refine ev_steps 0 (c' := (491, [some (vR 63 l0), some (vR 0 l1), some (vR 1 l2), some (vI l3)], [vI r371, vI r369])) (h' := (S, T)) rfl ?_
      refine ev_icmp_eq rfl (fun hc => ?_) (fun hc => ?_)
      · rw [if_pos hc] at hx
        exact t_Law_law_727 scr l0 l1 l2 l3 S T hx hG
      · rw [if_neg hc] at hx
        obtain ⟨x, hy, rfl⟩ := exW_some hx
        replace hx := hy
        simp only [Sum.elim_inr] at hG
        refine ev_steps 1 (c' := (495, [some (vR 63 l0), some (vR 0 l1), some (vR 1 l2), some (vI l3)], [vI (0 : Int32)])) (h' := (S, T)) rfl ?_
        cases hx
        subst hG
        exact ev_ret rfl rfl
    rw [if_neg hc] at hx
    have hn7 := hc
    clear hc
    by_cases hc : ((scr.2 (ix l3)) &&& (15 : Int32)) = (8 : Int32)
    · rw [if_pos hc] at hx
      refine ev_swk (t := 496) rfl hc (by decide) ?_
      refine ev_steps 5 (c' := (501, [some (vR 63 l0), some (vR 0 l1), some (vR 1 l2), some (vI l3)], [vI (l3 + (1 : Int32)), vR 63 l0, vR 0 l1])) (h' := (S, T)) rfl ?_
      obtain ⟨hg, hx⟩ := ifg hx
      refine ev_iscr rfl hg ?_
      refine ev_steps 4 (c' := (506, [some (vR 63 l0), some (vR 0 l1), some (vR 1 l2), some (vI l3)], [vI (l3 + (2 : Int32)), vR 63 l0, vI (scr.2 (ix (l3 + (1 : Int32)))), vR 0 l1])) (h' := (S, T)) rfl ?_
      obtain ⟨hg, hx⟩ := ifg hx
      refine ev_iscr rfl hg ?_
      refine ev_steps 0 (c' := (507, [some (vR 63 l0), some (vR 0 l1), some (vR 1 l2), some (vI l3)], [vI (scr.2 (ix (l3 + (2 : Int32)))), vI (scr.2 (ix (l3 + (1 : Int32)))), vR 0 l1])) (h' := (S, T)) rfl ?_
      obtain ⟨r373, hc, hx⟩ := bd_some hx
      refine ev_call rfl rfl rfl rfl rfl rfl rfl rfl rfl ((t_L_length scr l1 (scr.2 (ix (l3 + (1 : Int32)))) (scr.2 (ix (l3 + (2 : Int32)))) S T hc rfl).mono (by decide)) ?_
      refine ev_steps 5 (c' := (515, [some (vR 63 l0), some (vR 0 l1), some (vR 1 l2), some (vI l3)], [vI (l3 + (1 : Int32)), vR 63 l0, vR 1 l2, vI r373])) (h' := (S, T)) rfl ?_
      obtain ⟨hg, hx⟩ := ifg hx
      refine ev_iscr rfl hg ?_
      refine ev_steps 4 (c' := (520, [some (vR 63 l0), some (vR 0 l1), some (vR 1 l2), some (vI l3)], [vI (l3 + (2 : Int32)), vR 63 l0, vI (scr.2 (ix (l3 + (1 : Int32)))), vR 1 l2, vI r373])) (h' := (S, T)) rfl ?_
      obtain ⟨hg, hx⟩ := ifg hx
      refine ev_iscr rfl hg ?_
      refine ev_steps 0 (c' := (521, [some (vR 63 l0), some (vR 0 l1), some (vR 1 l2), some (vI l3)], [vI (scr.2 (ix (l3 + (2 : Int32)))), vI (scr.2 (ix (l3 + (1 : Int32)))), vR 1 l2, vI r373])) (h' := (S, T)) rfl ?_
      obtain ⟨r375, hc, hx⟩ := bd_some hx
      refine ev_call rfl rfl rfl rfl rfl rfl rfl rfl rfl ((t_M_length scr l2 (scr.2 (ix (l3 + (1 : Int32)))) (scr.2 (ix (l3 + (2 : Int32)))) T S hc rfl).mono (by decide)) ?_
      refine ev_steps 0 (c' := (524, [some (vR 63 l0), some (vR 0 l1), some (vR 1 l2), some (vI l3)], [vI r375, vI r373])) (h' := (S, T)) rfl ?_
      refine ev_icmp_eq rfl (fun hc => ?_) (fun hc => ?_)
      · rw [if_pos hc] at hx
        exact t_Law_law_727 scr l0 l1 l2 l3 S T hx hG
      · rw [if_neg hc] at hx
        obtain ⟨x, hy, rfl⟩ := exW_some hx
        replace hx := hy
        simp only [Sum.elim_inr] at hG
        refine ev_steps 1 (c' := (528, [some (vR 63 l0), some (vR 0 l1), some (vR 1 l2), some (vI l3)], [vI (0 : Int32)])) (h' := (S, T)) rfl ?_
        cases hx
        subst hG
        exact ev_ret rfl rfl
    rw [if_neg hc] at hx
    have hn8 := hc
    clear hc
    by_cases hc : ((scr.2 (ix l3)) &&& (15 : Int32)) = (9 : Int32)
    · rw [if_pos hc] at hx
      refine ev_swk (t := 529) rfl hc (by decide) ?_
      refine ev_steps 5 (c' := (534, [some (vR 63 l0), some (vR 0 l1), some (vR 1 l2), some (vI l3)], [vI (l3 + (1 : Int32)), vR 63 l0, vR 0 l1])) (h' := (S, T)) rfl ?_
      obtain ⟨hg, hx⟩ := ifg hx
      refine ev_iscr rfl hg ?_
      refine ev_steps 0 (c' := (535, [some (vR 63 l0), some (vR 0 l1), some (vR 1 l2), some (vI l3)], [vI (scr.2 (ix (l3 + (1 : Int32)))), vR 0 l1])) (h' := (S, T)) rfl ?_
      obtain ⟨r377, S378, hc, hx⟩ := bd2_some hx
      refine ev_call rfl rfl rfl rfl rfl rfl rfl rfl rfl ((t_L_abort scr l1 (scr.2 (ix (l3 + (1 : Int32)))) S T hc rfl).mono (by decide)) ?_
      refine ev_steps 5 (c' := (543, [some (vR 63 l0), some (vR 0 l1), some (vR 1 l2), some (vI l3)], [vI (l3 + (1 : Int32)), vR 63 l0, vR 1 l2, vI r377])) (h' := (S378, T)) rfl ?_
      obtain ⟨hg, hx⟩ := ifg hx
      refine ev_iscr rfl hg ?_
      refine ev_steps 0 (c' := (544, [some (vR 63 l0), some (vR 0 l1), some (vR 1 l2), some (vI l3)], [vI (scr.2 (ix (l3 + (1 : Int32)))), vR 1 l2, vI r377])) (h' := (S378, T)) rfl ?_
      obtain ⟨r379, S380, hc, hx⟩ := bd2_some hx
      refine ev_call rfl rfl rfl rfl rfl rfl rfl rfl rfl ((t_M_abort scr l2 (scr.2 (ix (l3 + (1 : Int32)))) T S378 hc rfl).mono (by decide)) ?_
      refine ev_steps 0 (c' := (547, [some (vR 63 l0), some (vR 0 l1), some (vR 1 l2), some (vI l3)], [vI r379, vI r377])) (h' := (S378, S380)) rfl ?_
      refine ev_icmp_eq rfl (fun hc => ?_) (fun hc => ?_)
      · rw [if_pos hc] at hx
        exact t_Law_law_727 scr l0 l1 l2 l3 S378 S380 hx hG
      · rw [if_neg hc] at hx
        obtain ⟨x, hy, rfl⟩ := exW_some hx
        replace hx := hy
        simp only [Sum.elim_inr] at hG
        refine ev_steps 1 (c' := (551, [some (vR 63 l0), some (vR 0 l1), some (vR 1 l2), some (vI l3)], [vI (0 : Int32)])) (h' := (S378, S380)) rfl ?_
        cases hx
        subst hG
        exact ev_ret rfl rfl
    rw [if_neg hc] at hx
    have hn9 := hc
    clear hc
    by_cases hc : ((scr.2 (ix l3)) &&& (15 : Int32)) = (10 : Int32)
    · rw [if_pos hc] at hx
      refine ev_swk (t := 552) rfl hc (by decide) ?_
      refine ev_steps 5 (c' := (557, [some (vR 63 l0), some (vR 0 l1), some (vR 1 l2), some (vI l3)], [vI (l3 + (1 : Int32)), vR 63 l0, vR 0 l1])) (h' := (S, T)) rfl ?_
      obtain ⟨hg, hx⟩ := ifg hx
      refine ev_iscr rfl hg ?_
      refine ev_steps 4 (c' := (562, [some (vR 63 l0), some (vR 0 l1), some (vR 1 l2), some (vI l3)], [vI (l3 + (2 : Int32)), vR 63 l0, vI (scr.2 (ix (l3 + (1 : Int32)))), vR 0 l1])) (h' := (S, T)) rfl ?_
      obtain ⟨hg, hx⟩ := ifg hx
      refine ev_iscr rfl hg ?_
      refine ev_steps 0 (c' := (563, [some (vR 63 l0), some (vR 0 l1), some (vR 1 l2), some (vI l3)], [vI (scr.2 (ix (l3 + (2 : Int32)))), vI (scr.2 (ix (l3 + (1 : Int32)))), vR 0 l1])) (h' := (S, T)) rfl ?_
      obtain ⟨r381, S382, hc, hx⟩ := bd2_some hx
      refine ev_call rfl rfl rfl rfl rfl rfl rfl rfl rfl ((t_L_primary scr l1 (scr.2 (ix (l3 + (1 : Int32)))) (scr.2 (ix (l3 + (2 : Int32)))) S T hc rfl).mono (by decide)) ?_
      refine ev_steps 5 (c' := (571, [some (vR 63 l0), some (vR 0 l1), some (vR 1 l2), some (vI l3)], [vI (l3 + (1 : Int32)), vR 63 l0, vR 1 l2, vI r381])) (h' := (S382, T)) rfl ?_
      obtain ⟨hg, hx⟩ := ifg hx
      refine ev_iscr rfl hg ?_
      refine ev_steps 4 (c' := (576, [some (vR 63 l0), some (vR 0 l1), some (vR 1 l2), some (vI l3)], [vI (l3 + (2 : Int32)), vR 63 l0, vI (scr.2 (ix (l3 + (1 : Int32)))), vR 1 l2, vI r381])) (h' := (S382, T)) rfl ?_
      obtain ⟨hg, hx⟩ := ifg hx
      refine ev_iscr rfl hg ?_
      refine ev_steps 0 (c' := (577, [some (vR 63 l0), some (vR 0 l1), some (vR 1 l2), some (vI l3)], [vI (scr.2 (ix (l3 + (2 : Int32)))), vI (scr.2 (ix (l3 + (1 : Int32)))), vR 1 l2, vI r381])) (h' := (S382, T)) rfl ?_
      obtain ⟨r383, S384, hc, hx⟩ := bd2_some hx
      refine ev_call rfl rfl rfl rfl rfl rfl rfl rfl rfl ((t_M_primary scr l2 (scr.2 (ix (l3 + (1 : Int32)))) (scr.2 (ix (l3 + (2 : Int32)))) T S382 hc rfl).mono (by decide)) ?_
      refine ev_steps 0 (c' := (580, [some (vR 63 l0), some (vR 0 l1), some (vR 1 l2), some (vI l3)], [vI r383, vI r381])) (h' := (S382, S384)) rfl ?_
      refine ev_icmp_eq rfl (fun hc => ?_) (fun hc => ?_)
      · rw [if_pos hc] at hx
        exact t_Law_law_727 scr l0 l1 l2 l3 S382 S384 hx hG
      · rw [if_neg hc] at hx
        obtain ⟨x, hy, rfl⟩ := exW_some hx
        replace hx := hy
        simp only [Sum.elim_inr] at hG
        refine ev_steps 1 (c' := (584, [some (vR 63 l0), some (vR 0 l1), some (vR 1 l2), some (vI l3)], [vI (0 : Int32)])) (h' := (S382, S384)) rfl ?_
        cases hx
        subst hG
        exact ev_ret rfl rfl
    rw [if_neg hc] at hx
    have hn10 := hc
    clear hc
    by_cases hc : ((scr.2 (ix l3)) &&& (15 : Int32)) = (11 : Int32)
    · rw [if_pos hc] at hx
      refine ev_swk (t := 585) rfl hc (by decide) ?_
      refine ev_steps 5 (c' := (590, [some (vR 63 l0), some (vR 0 l1), some (vR 1 l2), some (vI l3)], [vI (l3 + (1 : Int32)), vR 63 l0, vR 0 l1])) (h' := (S, T)) rfl ?_
      obtain ⟨hg, hx⟩ := ifg hx
      refine ev_iscr rfl hg ?_
      refine ev_steps 4 (c' := (595, [some (vR 63 l0), some (vR 0 l1), some (vR 1 l2), some (vI l3)], [vI (l3 + (2 : Int32)), vR 63 l0, vI (scr.2 (ix (l3 + (1 : Int32)))), vR 0 l1])) (h' := (S, T)) rfl ?_
      obtain ⟨hg, hx⟩ := ifg hx
      refine ev_iscr rfl hg ?_
      refine ev_steps 0 (c' := (596, [some (vR 63 l0), some (vR 0 l1), some (vR 1 l2), some (vI l3)], [vI (scr.2 (ix (l3 + (2 : Int32)))), vI (scr.2 (ix (l3 + (1 : Int32)))), vR 0 l1])) (h' := (S, T)) rfl ?_
      obtain ⟨r385, hc, hx⟩ := bd_some hx
      refine ev_call rfl rfl rfl rfl rfl rfl rfl rfl rfl ((t_L_about scr l1 (scr.2 (ix (l3 + (1 : Int32)))) (scr.2 (ix (l3 + (2 : Int32)))) S T hc rfl).mono (by decide)) ?_
      refine ev_steps 5 (c' := (604, [some (vR 63 l0), some (vR 0 l1), some (vR 1 l2), some (vI l3)], [vI (l3 + (1 : Int32)), vR 63 l0, vR 1 l2, vI r385])) (h' := (S, T)) rfl ?_
      obtain ⟨hg, hx⟩ := ifg hx
      refine ev_iscr rfl hg ?_
      refine ev_steps 4 (c' := (609, [some (vR 63 l0), some (vR 0 l1), some (vR 1 l2), some (vI l3)], [vI (l3 + (2 : Int32)), vR 63 l0, vI (scr.2 (ix (l3 + (1 : Int32)))), vR 1 l2, vI r385])) (h' := (S, T)) rfl ?_
      obtain ⟨hg, hx⟩ := ifg hx
      refine ev_iscr rfl hg ?_
      refine ev_steps 0 (c' := (610, [some (vR 63 l0), some (vR 0 l1), some (vR 1 l2), some (vI l3)], [vI (scr.2 (ix (l3 + (2 : Int32)))), vI (scr.2 (ix (l3 + (1 : Int32)))), vR 1 l2, vI r385])) (h' := (S, T)) rfl ?_
      obtain ⟨r387, hc, hx⟩ := bd_some hx
      refine ev_call rfl rfl rfl rfl rfl rfl rfl rfl rfl ((t_M_about scr l2 (scr.2 (ix (l3 + (1 : Int32)))) (scr.2 (ix (l3 + (2 : Int32)))) T S hc rfl).mono (by decide)) ?_
      refine ev_steps 0 (c' := (613, [some (vR 63 l0), some (vR 0 l1), some (vR 1 l2), some (vI l3)], [vI r387, vI r385])) (h' := (S, T)) rfl ?_
      refine ev_icmp_eq rfl (fun hc => ?_) (fun hc => ?_)
      · rw [if_pos hc] at hx
        exact t_Law_law_727 scr l0 l1 l2 l3 S T hx hG
      · rw [if_neg hc] at hx
        obtain ⟨x, hy, rfl⟩ := exW_some hx
        replace hx := hy
        simp only [Sum.elim_inr] at hG
        refine ev_steps 1 (c' := (617, [some (vR 63 l0), some (vR 0 l1), some (vR 1 l2), some (vI l3)], [vI (0 : Int32)])) (h' := (S, T)) rfl ?_
        cases hx
        subst hG
        exact ev_ret rfl rfl
    rw [if_neg hc] at hx
    have hn11 := hc
    clear hc
    by_cases hc : ((scr.2 (ix l3)) &&& (15 : Int32)) = (12 : Int32)
    · rw [if_pos hc] at hx
      refine ev_swk (t := 618) rfl hc (by decide) ?_
      refine ev_steps 5 (c' := (623, [some (vR 63 l0), some (vR 0 l1), some (vR 1 l2), some (vI l3)], [vI (l3 + (1 : Int32)), vR 63 l0, vR 0 l1])) (h' := (S, T)) rfl ?_
      obtain ⟨hg, hx⟩ := ifg hx
      refine ev_iscr rfl hg ?_
      refine ev_steps 4 (c' := (628, [some (vR 63 l0), some (vR 0 l1), some (vR 1 l2), some (vI l3)], [vI (l3 + (2 : Int32)), vR 63 l0, vI (scr.2 (ix (l3 + (1 : Int32)))), vR 0 l1])) (h' := (S, T)) rfl ?_
      obtain ⟨hg, hx⟩ := ifg hx
      refine ev_iscr rfl hg ?_
      refine ev_steps 4 (c' := (633, [some (vR 63 l0), some (vR 0 l1), some (vR 1 l2), some (vI l3)], [vI (l3 + (3 : Int32)), vR 63 l0, vI (scr.2 (ix (l3 + (2 : Int32)))), vI (scr.2 (ix (l3 + (1 : Int32)))), vR 0 l1])) (h' := (S, T)) rfl ?_
      obtain ⟨hg, hx⟩ := ifg hx
      refine ev_iscr rfl hg ?_
      refine ev_steps 0 (c' := (634, [some (vR 63 l0), some (vR 0 l1), some (vR 1 l2), some (vI l3)], [vI (scr.2 (ix (l3 + (3 : Int32)))), vI (scr.2 (ix (l3 + (2 : Int32)))), vI (scr.2 (ix (l3 + (1 : Int32)))), vR 0 l1])) (h' := (S, T)) rfl ?_
      obtain ⟨r389, hc, hx⟩ := bd_some hx
      refine ev_call rfl rfl rfl rfl rfl rfl rfl rfl rfl ((t_L_path scr l1 (scr.2 (ix (l3 + (1 : Int32)))) (scr.2 (ix (l3 + (2 : Int32)))) (scr.2 (ix (l3 + (3 : Int32)))) S T hc rfl).mono (by decide)) ?_
      refine ev_steps 5 (c' := (642, [some (vR 63 l0), some (vR 0 l1), some (vR 1 l2), some (vI l3)], [vI (l3 + (1 : Int32)), vR 63 l0, vR 1 l2, vI r389])) (h' := (S, T)) rfl ?_
      obtain ⟨hg, hx⟩ := ifg hx
      refine ev_iscr rfl hg ?_
      refine ev_steps 4 (c' := (647, [some (vR 63 l0), some (vR 0 l1), some (vR 1 l2), some (vI l3)], [vI (l3 + (2 : Int32)), vR 63 l0, vI (scr.2 (ix (l3 + (1 : Int32)))), vR 1 l2, vI r389])) (h' := (S, T)) rfl ?_
      obtain ⟨hg, hx⟩ := ifg hx
      refine ev_iscr rfl hg ?_
      refine ev_steps 4 (c' := (652, [some (vR 63 l0), some (vR 0 l1), some (vR 1 l2), some (vI l3)], [vI (l3 + (3 : Int32)), vR 63 l0, vI (scr.2 (ix (l3 + (2 : Int32)))), vI (scr.2 (ix (l3 + (1 : Int32)))), vR 1 l2, vI r389])) (h' := (S, T)) rfl ?_
      obtain ⟨hg, hx⟩ := ifg hx
      refine ev_iscr rfl hg ?_
      refine ev_steps 0 (c' := (653, [some (vR 63 l0), some (vR 0 l1), some (vR 1 l2), some (vI l3)], [vI (scr.2 (ix (l3 + (3 : Int32)))), vI (scr.2 (ix (l3 + (2 : Int32)))), vI (scr.2 (ix (l3 + (1 : Int32)))), vR 1 l2, vI r389])) (h' := (S, T)) rfl ?_
      obtain ⟨r391, hc, hx⟩ := bd_some hx
      refine ev_call rfl rfl rfl rfl rfl rfl rfl rfl rfl ((t_M_path scr l2 (scr.2 (ix (l3 + (1 : Int32)))) (scr.2 (ix (l3 + (2 : Int32)))) (scr.2 (ix (l3 + (3 : Int32)))) T S hc rfl).mono (by decide)) ?_
      refine ev_steps 0 (c' := (656, [some (vR 63 l0), some (vR 0 l1), some (vR 1 l2), some (vI l3)], [vI r391, vI r389])) (h' := (S, T)) rfl ?_
      refine ev_icmp_eq rfl (fun hc => ?_) (fun hc => ?_)
      · rw [if_pos hc] at hx
        exact t_Law_law_727 scr l0 l1 l2 l3 S T hx hG
      · rw [if_neg hc] at hx
        obtain ⟨x, hy, rfl⟩ := exW_some hx
        replace hx := hy
        simp only [Sum.elim_inr] at hG
        refine ev_steps 1 (c' := (660, [some (vR 63 l0), some (vR 0 l1), some (vR 1 l2), some (vI l3)], [vI (0 : Int32)])) (h' := (S, T)) rfl ?_
        cases hx
        subst hG
        exact ev_ret rfl rfl
    rw [if_neg hc] at hx
    have hn12 := hc
    clear hc
    by_cases hc : ((scr.2 (ix l3)) &&& (15 : Int32)) = (13 : Int32)
    · rw [if_pos hc] at hx
      refine ev_swk (t := 661) rfl hc (by decide) ?_
      refine ev_steps 5 (c' := (666, [some (vR 63 l0), some (vR 0 l1), some (vR 1 l2), some (vI l3)], [vI (l3 + (1 : Int32)), vR 63 l0, vR 0 l1])) (h' := (S, T)) rfl ?_
      obtain ⟨hg, hx⟩ := ifg hx
      refine ev_iscr rfl hg ?_
      refine ev_steps 4 (c' := (671, [some (vR 63 l0), some (vR 0 l1), some (vR 1 l2), some (vI l3)], [vI (l3 + (2 : Int32)), vR 63 l0, vI (scr.2 (ix (l3 + (1 : Int32)))), vR 0 l1])) (h' := (S, T)) rfl ?_
      obtain ⟨hg, hx⟩ := ifg hx
      refine ev_iscr rfl hg ?_
      refine ev_steps 0 (c' := (672, [some (vR 63 l0), some (vR 0 l1), some (vR 1 l2), some (vI l3)], [vI (scr.2 (ix (l3 + (2 : Int32)))), vI (scr.2 (ix (l3 + (1 : Int32)))), vR 0 l1])) (h' := (S, T)) rfl ?_
      obtain ⟨r393, hc, hx⟩ := bd_some hx
      refine ev_call rfl rfl rfl rfl rfl rfl rfl rfl rfl ((t_L_waiting scr l1 (scr.2 (ix (l3 + (1 : Int32)))) (scr.2 (ix (l3 + (2 : Int32)))) S T hc rfl).mono (by decide)) ?_
      refine ev_steps 5 (c' := (680, [some (vR 63 l0), some (vR 0 l1), some (vR 1 l2), some (vI l3)], [vI (l3 + (1 : Int32)), vR 63 l0, vR 1 l2, vI r393])) (h' := (S, T)) rfl ?_
      obtain ⟨hg, hx⟩ := ifg hx
      refine ev_iscr rfl hg ?_
      refine ev_steps 4 (c' := (685, [some (vR 63 l0), some (vR 0 l1), some (vR 1 l2), some (vI l3)], [vI (l3 + (2 : Int32)), vR 63 l0, vI (scr.2 (ix (l3 + (1 : Int32)))), vR 1 l2, vI r393])) (h' := (S, T)) rfl ?_
      obtain ⟨hg, hx⟩ := ifg hx
      refine ev_iscr rfl hg ?_
      refine ev_steps 0 (c' := (686, [some (vR 63 l0), some (vR 0 l1), some (vR 1 l2), some (vI l3)], [vI (scr.2 (ix (l3 + (2 : Int32)))), vI (scr.2 (ix (l3 + (1 : Int32)))), vR 1 l2, vI r393])) (h' := (S, T)) rfl ?_
      obtain ⟨r395, hc, hx⟩ := bd_some hx
      refine ev_call rfl rfl rfl rfl rfl rfl rfl rfl rfl ((t_M_waiting scr l2 (scr.2 (ix (l3 + (1 : Int32)))) (scr.2 (ix (l3 + (2 : Int32)))) T S hc rfl).mono (by decide)) ?_
      refine ev_steps 0 (c' := (689, [some (vR 63 l0), some (vR 0 l1), some (vR 1 l2), some (vI l3)], [vI r395, vI r393])) (h' := (S, T)) rfl ?_
      refine ev_icmp_eq rfl (fun hc => ?_) (fun hc => ?_)
      · rw [if_pos hc] at hx
        exact t_Law_law_727 scr l0 l1 l2 l3 S T hx hG
      · rw [if_neg hc] at hx
        obtain ⟨x, hy, rfl⟩ := exW_some hx
        replace hx := hy
        simp only [Sum.elim_inr] at hG
        refine ev_steps 1 (c' := (693, [some (vR 63 l0), some (vR 0 l1), some (vR 1 l2), some (vI l3)], [vI (0 : Int32)])) (h' := (S, T)) rfl ?_
        cases hx
        subst hG
        exact ev_ret rfl rfl
    rw [if_neg hc] at hx
    have hn13 := hc
    clear hc
    by_cases hc : ((scr.2 (ix l3)) &&& (15 : Int32)) = (14 : Int32)
    · rw [if_pos hc] at hx
      refine ev_swk (t := 694) rfl hc (by decide) ?_
      refine ev_steps 5 (c' := (699, [some (vR 63 l0), some (vR 0 l1), some (vR 1 l2), some (vI l3)], [vI (l3 + (1 : Int32)), vR 63 l0, vR 0 l1])) (h' := (S, T)) rfl ?_
      obtain ⟨hg, hx⟩ := ifg hx
      refine ev_iscr rfl hg ?_
      refine ev_steps 4 (c' := (704, [some (vR 63 l0), some (vR 0 l1), some (vR 1 l2), some (vI l3)], [vI (l3 + (2 : Int32)), vR 63 l0, vI (scr.2 (ix (l3 + (1 : Int32)))), vR 0 l1])) (h' := (S, T)) rfl ?_
      obtain ⟨hg, hx⟩ := ifg hx
      refine ev_iscr rfl hg ?_
      refine ev_steps 0 (c' := (705, [some (vR 63 l0), some (vR 0 l1), some (vR 1 l2), some (vI l3)], [vI (scr.2 (ix (l3 + (2 : Int32)))), vI (scr.2 (ix (l3 + (1 : Int32)))), vR 0 l1])) (h' := (S, T)) rfl ?_
      obtain ⟨r397, hc, hx⟩ := bd_some hx
      refine ev_call rfl rfl rfl rfl rfl rfl rfl rfl rfl ((t_L_word scr l1 (scr.2 (ix (l3 + (1 : Int32)))) (scr.2 (ix (l3 + (2 : Int32)))) S T hc rfl).mono (by decide)) ?_
      refine ev_steps 5 (c' := (713, [some (vR 63 l0), some (vR 0 l1), some (vR 1 l2), some (vI l3)], [vI (l3 + (1 : Int32)), vR 63 l0, vR 1 l2, vI r397])) (h' := (S, T)) rfl ?_
      obtain ⟨hg, hx⟩ := ifg hx
      refine ev_iscr rfl hg ?_
      refine ev_steps 4 (c' := (718, [some (vR 63 l0), some (vR 0 l1), some (vR 1 l2), some (vI l3)], [vI (l3 + (2 : Int32)), vR 63 l0, vI (scr.2 (ix (l3 + (1 : Int32)))), vR 1 l2, vI r397])) (h' := (S, T)) rfl ?_
      obtain ⟨hg, hx⟩ := ifg hx
      refine ev_iscr rfl hg ?_
      refine ev_steps 0 (c' := (719, [some (vR 63 l0), some (vR 0 l1), some (vR 1 l2), some (vI l3)], [vI (scr.2 (ix (l3 + (2 : Int32)))), vI (scr.2 (ix (l3 + (1 : Int32)))), vR 1 l2, vI r397])) (h' := (S, T)) rfl ?_
      obtain ⟨r399, hc, hx⟩ := bd_some hx
      refine ev_call rfl rfl rfl rfl rfl rfl rfl rfl rfl ((t_M_word scr l2 (scr.2 (ix (l3 + (1 : Int32)))) (scr.2 (ix (l3 + (2 : Int32)))) T S hc rfl).mono (by decide)) ?_
      refine ev_steps 0 (c' := (722, [some (vR 63 l0), some (vR 0 l1), some (vR 1 l2), some (vI l3)], [vI r399, vI r397])) (h' := (S, T)) rfl ?_
      refine ev_icmp_eq rfl (fun hc => ?_) (fun hc => ?_)
      · rw [if_pos hc] at hx
        exact t_Law_law_727 scr l0 l1 l2 l3 S T hx hG
      · rw [if_neg hc] at hx
        obtain ⟨x, hy, rfl⟩ := exW_some hx
        replace hx := hy
        simp only [Sum.elim_inr] at hG
        refine ev_steps 1 (c' := (726, [some (vR 63 l0), some (vR 0 l1), some (vR 1 l2), some (vI l3)], [vI (0 : Int32)])) (h' := (S, T)) rfl ?_
        cases hx
        subst hG
        exact ev_ret rfl rfl
    rw [if_neg hc] at hx
    have hn14 := hc
    clear hc
    refine ev_swd rfl (And.intro (sw_ne hn0 rfl) (And.intro (sw_ne hn1 rfl) (And.intro (sw_ne hn2 rfl) (And.intro (sw_ne hn3 rfl) (And.intro (sw_ne hn4 rfl) (And.intro (sw_ne hn5 rfl) (And.intro (sw_ne hn6 rfl) (And.intro (sw_ne hn7 rfl) (And.intro (sw_ne hn8 rfl) (And.intro (sw_ne hn9 rfl) (And.intro (sw_ne hn10 rfl) (And.intro (sw_ne hn11 rfl) (And.intro (sw_ne hn12 rfl) (And.intro (sw_ne hn13 rfl) (And.intro (sw_ne hn14 rfl) (True.intro)))))))))))))))) ?_
    exact t_Law_law_727 scr l0 l1 l2 l3 S T hx hG
set_option maxRecDepth 100000 in
theorem t_Law_law_48 (scr : Nat × (Nat → Int32)) (l0 : Nat) (l1 : Nat) (l2 : Nat) (l3 : Int32) (S : St) (T : St) {x : Int32 × St × St} {o : Option iV × SS} (hx : f_Law_law_48 scr l0 l1 l2 (l3, S, T) = some x) (hG : (fun x => (some (vI x.1), (x.2.1, x.2.2)) = o) x) : EB scr 8 13 2 cd_Law_law (48, [some (vR 63 l0), some (vR 0 l1), some (vR 1 l2), some (vI l3)], []) (S, T) o := by
  exact iter_ind (P := fun q => EB scr 8 13 2 cd_Law_law (48, [some (vR 63 l0), some (vR 0 l1), some (vR 1 l2), some (vI q.1)], []) (q.2.1, q.2.2) o) (G := fun x => (some (vI x.1), (x.2.1, x.2.2)) = o) (fun q x hb hP  => t_Law_law_48_b scr l0 l1 l2 q.1 q.2.1 q.2.2 hb hP) hx hG 
