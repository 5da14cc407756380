/-! Methods as functions on the store, printed by a program. -/
-- M_oneReady
def f_M_oneReady_213 (l0 : Nat) (l1 : Int32) (l2 : Int32) (S : St) : Option ((Int32) ⊕ (Int32 × St)) :=
  some (Sum.inl (l2 + (1 : Int32)))
set_option maxRecDepth 100000 in
theorem t_M_oneReady_213 (scr : Nat × (Nat → Int32)) (l0 : Nat) (l1 : Int32) (l2 : Int32) (S : St) (T : St) (d3 d4 d5 d6 d7 : Option iV) {x : (Int32) ⊕ (Int32 × St)} {o : Option iV × SS} (hx : f_M_oneReady_213 l0 l1 l2 S = some x) (hG : (Sum.elim (fun q => ∀ d3 d4 d5 d6 d7 : Option iV, EB scr 1 1 2 cd_M_oneReady (2, [some (vR 1 l0), some (vI l1), some (vI q), d3, d4, d5, d6, d7], []) (T, S) o) (fun x => (some (vI x.1), (T, x.2)) = o)) x) : EB scr 1 1 2 cd_M_oneReady (213, [some (vR 1 l0), some (vI l1), some (vI l2), d3, d4, d5, d6, d7], []) (T, S) o := by
  unfold f_M_oneReady_213 at hx
  try dsimp only at hG
  refine ev_steps 2 (c' := (2, [some (vR 1 l0), some (vI l1), some (vI (l2 + (1 : Int32))), _, _, _, _, _], [])) (h' := (T, S)) rfl ?_
  cases hx
  exact hG _ _ _ _ _
def f_M_oneReady_188_b (l0 : Nat) (l3 : Int32) (l4 : Int32)  : (Int32 × St) → Option ((Int32 × St) ⊕ (Int32 × St))
  | (l7, S) => if l7 < l4 then (if inb (l3 + l7) 1088 = true then some (Sum.inl (l7 + (1 : Int32), up3 S cM_held l0 (ix (l3 + l7)) (0 : Int32))) else none) else exW (some ((1 : Int32), S))
def f_M_oneReady_188 (l0 : Nat) (l3 : Int32) (l4 : Int32)  (q : Int32 × St) : Option (Int32 × St) := iter (f_M_oneReady_188_b l0 l3 l4) 4096 q
set_option maxRecDepth 100000 in
theorem t_M_oneReady_188_b (scr : Nat × (Nat → Int32)) (l0 : Nat) (l3 : Int32) (l4 : Int32) (l7 : Int32) (S : St) (T : St) (d1 d2 d5 d6 : Option iV) {x : (Int32 × St) ⊕ (Int32 × St)} {o : Option iV × SS} (hx : f_M_oneReady_188_b l0 l3 l4 (l7, S) = some x) (hG : (Sum.elim (fun q => ∀ d1 d2 d5 d6 : Option iV, EB scr 1 1 2 cd_M_oneReady (188, [some (vR 1 l0), d1, d2, some (vI l3), some (vI l4), d5, d6, some (vI q.1)], []) (T, q.2) o) (fun x => (some (vI x.1), (T, x.2)) = o)) x) : EB scr 1 1 2 cd_M_oneReady (188, [some (vR 1 l0), d1, d2, some (vI l3), some (vI l4), d5, d6, some (vI l7)], []) (T, S) o := by
  unfold f_M_oneReady_188_b at hx
  dsimp only at hx
  refine ev_steps 2 (c' := (192, [some (vR 1 l0), _, _, some (vI l3), some (vI l4), _, _, some (vI l7)], [vI l4, vI l7])) (h' := (T, S)) rfl ?_
  refine ev_icmp_ge rfl (fun hc => ?_) (fun hc => ?_)
  · rw [if_pos hc] at hx
    refine ev_steps 6 (c' := (204, [some (vR 1 l0), _, _, some (vI l3), some (vI l4), _, _, some (vI l7)], [vI (0 : Int32), vI (l3 + l7), vR 113 l0])) (h' := (T, S)) rfl ?_
    obtain ⟨hg, hx⟩ := ifg hx
    refine ev_bast rfl rfl hg rfl ?_
    refine ev_steps 2 (c' := (188, [some (vR 1 l0), _, _, some (vI l3), some (vI l4), _, _, some (vI (l7 + (1 : Int32)))], [])) (h' := (T, up3 S cM_held l0 (ix (l3 + l7)) (0 : Int32))) rfl ?_
    cases hx
    exact hG _ _ _ _
  · rw [if_neg hc] at hx
    obtain ⟨x, hy, rfl⟩ := exW_some hx
    replace hx := hy
    simp only [Sum.elim_inr] at hG
    refine ev_steps 1 (c' := (212, [some (vR 1 l0), _, _, some (vI l3), some (vI l4), _, _, some (vI l7)], [vI (1 : Int32)])) (h' := (T, S)) rfl ?_
    cases hx
    subst hG
    exact ev_ret rfl rfl
set_option maxRecDepth 100000 in
theorem t_M_oneReady_188 (scr : Nat × (Nat → Int32)) (l0 : Nat) (l3 : Int32) (l4 : Int32) (l7 : Int32) (S : St) (T : St) (d1 d2 d5 d6 : Option iV) {x : Int32 × St} {o : Option iV × SS} (hx : f_M_oneReady_188 l0 l3 l4 (l7, S) = some x) (hG : (fun x => (some (vI x.1), (T, x.2)) = o) x) : EB scr 1 1 2 cd_M_oneReady (188, [some (vR 1 l0), d1, d2, some (vI l3), some (vI l4), d5, d6, some (vI l7)], []) (T, S) o := by
  exact iter_ind (P := fun q => ∀ d1 d2 d5 d6 : Option iV, EB scr 1 1 2 cd_M_oneReady (188, [some (vR 1 l0), d1, d2, some (vI l3), some (vI l4), d5, d6, some (vI q.1)], []) (T, q.2) o) (G := fun x => (some (vI x.1), (T, x.2)) = o) (fun q x hb hP d1 d2 d5 d6 => t_M_oneReady_188_b scr l0 l3 l4 q.1 q.2 T d1 d2 d5 d6 hb hP) hx hG d1 d2 d5 d6
def f_M_oneReady_126 (l0 : Nat) (l3 : Int32) (l4 : Int32) (l5 : Int32) (s0 : Nat) (s1 : Int32) (s2 : Int32) (s3 : Int32) (S : St) : Option (Int32 × St) :=
  if inb s1 6 = true then if inb l5 6 = true then if inb l3 1088 = true then if inb (((512 : Int32) * l5) + (S cM_readies l0 (ix l5))) 3072 = true then if inb l5 6 = true then if inb (((512 : Int32) * l5) + (S cM_readies l0 (ix l5))) 3072 = true then if inb l5 6 = true then if inb l5 6 = true then f_M_oneReady_188 l0 l3 l4 ((0 : Int32), up3 (up3 (up3 (up3 S cM_nextOrder s0 (ix s1) (s2 + s3)) cM_firstWord l0 (ix (((512 : Int32) * l5) + (S cM_readies l0 (ix l5)))) (S cM_hisValue l0 (ix l3))) cM_words l0 (ix (((512 : Int32) * l5) + (S cM_readies l0 (ix l5)))) l4) cM_readies l0 (ix l5) ((S cM_readies l0 (ix l5)) + (1 : Int32))) else none else none else none else none else none else none else none else none
set_option maxRecDepth 100000 in
theorem t_M_oneReady_126 (scr : Nat × (Nat → Int32)) (l0 : Nat) (l3 : Int32) (l4 : Int32) (l5 : Int32) (s0 : Nat) (s1 : Int32) (s2 : Int32) (s3 : Int32) (S : St) (T : St) (d1 d2 d6 d7 : Option iV) {x : Int32 × St} {o : Option iV × SS} (hx : f_M_oneReady_126 l0 l3 l4 l5 s0 s1 s2 s3 S = some x) (hG : (fun x => (some (vI x.1), (T, x.2)) = o) x) : EB scr 1 1 2 cd_M_oneReady (126, [some (vR 1 l0), d1, d2, some (vI l3), some (vI l4), some (vI l5), d6, d7], [vI s3, vI s2, vI s1, vR 118 s0]) (T, S) o := by
  unfold f_M_oneReady_126 at hx
  try dsimp only at hG
  refine ev_steps 1 (c' := (127, [some (vR 1 l0), _, _, some (vI l3), some (vI l4), some (vI l5), _, _], [vI (s2 + s3), vI s1, vR 118 s0])) (h' := (T, S)) rfl ?_
  obtain ⟨hg, hx⟩ := ifg hx
  refine ev_iast rfl rfl hg ?_
  refine ev_steps 8 (c' := (144, [some (vR 1 l0), _, _, some (vI l3), some (vI l4), some (vI l5), _, _], [vI l5, vR 120 l0, vI ((512 : Int32) * l5), vR 122 l0])) (h' := (T, up3 S cM_nextOrder s0 (ix s1) (s2 + s3))) rfl ?_
  obtain ⟨hg, hx⟩ := ifg hx
  refine ev_iald rfl rfl rfl hg ?_
  refine ev_steps 4 (c' := (151, [some (vR 1 l0), _, _, some (vI l3), some (vI l4), some (vI l5), _, _], [vI l3, vR 114 l0, vI (((512 : Int32) * l5) + (S cM_readies l0 (ix l5))), vR 122 l0])) (h' := (T, up3 S cM_nextOrder s0 (ix s1) (s2 + s3))) rfl ?_
  obtain ⟨hg, hx⟩ := ifg hx
  refine ev_iald rfl rfl rfl hg ?_
  refine ev_steps 0 (c' := (152, [some (vR 1 l0), _, _, some (vI l3), some (vI l4), some (vI l5), _, _], [vI (S cM_hisValue l0 (ix l3)), vI (((512 : Int32) * l5) + (S cM_readies l0 (ix l5))), vR 122 l0])) (h' := (T, up3 S cM_nextOrder s0 (ix s1) (s2 + s3))) rfl ?_
  obtain ⟨hg, hx⟩ := ifg hx
  refine ev_iast rfl rfl hg ?_
  refine ev_steps 8 (c' := (169, [some (vR 1 l0), _, _, some (vI l3), some (vI l4), some (vI l5), _, _], [vI l5, vR 120 l0, vI ((512 : Int32) * l5), vR 123 l0])) (h' := (T, up3 (up3 S cM_nextOrder s0 (ix s1) (s2 + s3)) cM_firstWord l0 (ix (((512 : Int32) * l5) + (S cM_readies l0 (ix l5)))) (S cM_hisValue l0 (ix l3)))) rfl ?_
  obtain ⟨hg, hx⟩ := ifg hx
  refine ev_iald rfl rfl rfl hg ?_
  refine ev_steps 2 (c' := (173, [some (vR 1 l0), _, _, some (vI l3), some (vI l4), some (vI l5), _, _], [vI l4, vI (((512 : Int32) * l5) + (S cM_readies l0 (ix l5))), vR 123 l0])) (h' := (T, up3 (up3 S cM_nextOrder s0 (ix s1) (s2 + s3)) cM_firstWord l0 (ix (((512 : Int32) * l5) + (S cM_readies l0 (ix l5)))) (S cM_hisValue l0 (ix l3)))) rfl ?_
  obtain ⟨hg, hx⟩ := ifg hx
  refine ev_iast rfl rfl hg ?_
  refine ev_steps 4 (c' := (181, [some (vR 1 l0), _, _, some (vI l3), some (vI l4), some (vI l5), _, _], [vI l5, vR 120 l0, vI l5, vR 120 l0])) (h' := (T, up3 (up3 (up3 S cM_nextOrder s0 (ix s1) (s2 + s3)) cM_firstWord l0 (ix (((512 : Int32) * l5) + (S cM_readies l0 (ix l5)))) (S cM_hisValue l0 (ix l3))) cM_words l0 (ix (((512 : Int32) * l5) + (S cM_readies l0 (ix l5)))) l4)) rfl ?_
  obtain ⟨hg, hx⟩ := ifg hx
  refine ev_iald rfl rfl rfl hg ?_
  refine ev_steps 2 (c' := (184, [some (vR 1 l0), _, _, some (vI l3), some (vI l4), some (vI l5), _, _], [vI ((S cM_readies l0 (ix l5)) + (1 : Int32)), vI l5, vR 120 l0])) (h' := (T, up3 (up3 (up3 S cM_nextOrder s0 (ix s1) (s2 + s3)) cM_firstWord l0 (ix (((512 : Int32) * l5) + (S cM_readies l0 (ix l5)))) (S cM_hisValue l0 (ix l3))) cM_words l0 (ix (((512 : Int32) * l5) + (S cM_readies l0 (ix l5)))) l4)) rfl ?_
  obtain ⟨hg, hx⟩ := ifg hx
  refine ev_iast rfl rfl hg ?_
  refine ev_steps 2 (c' := (188, [some (vR 1 l0), _, _, some (vI l3), some (vI l4), some (vI l5), _, some (vI (0 : Int32))], [])) (h' := (T, up3 (up3 (up3 (up3 S cM_nextOrder s0 (ix s1) (s2 + s3)) cM_firstWord l0 (ix (((512 : Int32) * l5) + (S cM_readies l0 (ix l5)))) (S cM_hisValue l0 (ix l3))) cM_words l0 (ix (((512 : Int32) * l5) + (S cM_readies l0 (ix l5)))) l4) cM_readies l0 (ix l5) ((S cM_readies l0 (ix l5)) + (1 : Int32)))) rfl ?_
  exact t_M_oneReady_188 scr l0 l3 l4 (0 : Int32) (up3 (up3 (up3 (up3 S cM_nextOrder s0 (ix s1) (s2 + s3)) cM_firstWord l0 (ix (((512 : Int32) * l5) + (S cM_readies l0 (ix l5)))) (S cM_hisValue l0 (ix l3))) cM_words l0 (ix (((512 : Int32) * l5) + (S cM_readies l0 (ix l5)))) l4) cM_readies l0 (ix l5) ((S cM_readies l0 (ix l5)) + (1 : Int32))) T _ _ _ _ hx hG
def f_M_oneReady_108 (l0 : Nat) (l3 : Int32) (l4 : Int32) (l5 : Int32) (l6 : Int32) (S : St) : Option (Int32 × St) :=
  if inb l5 6 = true then if l6 = 0 then f_M_oneReady_126 l0 l3 l4 l5 l0 l5 (S cM_nextOrder l0 (ix l5)) (1 : Int32) S else f_M_oneReady_126 l0 l3 l4 l5 l0 l5 (S cM_nextOrder l0 (ix l5)) (0 : Int32) S else none
set_option maxRecDepth 100000 in
theorem t_M_oneReady_108 (scr : Nat × (Nat → Int32)) (l0 : Nat) (l3 : Int32) (l4 : Int32) (l5 : Int32) (l6 : Int32) (S : St) (T : St) (d1 d2 d7 : Option iV) {x : Int32 × St} {o : Option iV × SS} (hx : f_M_oneReady_108 l0 l3 l4 l5 l6 S = some x) (hG : (fun x => (some (vI x.1), (T, x.2)) = o) x) : EB scr 1 1 2 cd_M_oneReady (108, [some (vR 1 l0), d1, d2, some (vI l3), some (vI l4), some (vI l5), some (vI l6), d7], []) (T, S) o := by
  unfold f_M_oneReady_108 at hx
  try dsimp only at hG
  refine ev_steps 4 (c' := (115, [some (vR 1 l0), _, _, some (vI l3), some (vI l4), some (vI l5), some (vI l6), _], [vI l5, vR 118 l0, vI l5, vR 118 l0])) (h' := (T, S)) rfl ?_
  obtain ⟨hg, hx⟩ := ifg hx
  refine ev_iald rfl rfl rfl hg ?_
  refine ev_steps 1 (c' := (118, [some (vR 1 l0), _, _, some (vI l3), some (vI l4), some (vI l5), some (vI l6), _], [vI l6, vI (S cM_nextOrder l0 (ix l5)), vI l5, vR 118 l0])) (h' := (T, S)) rfl ?_
  refine ev_if_eq rfl (fun hc => ?_) (fun hc => ?_)
  · rw [if_pos hc] at hx
    refine ev_steps 1 (c' := (126, [some (vR 1 l0), _, _, some (vI l3), some (vI l4), some (vI l5), some (vI l6), _], [vI (1 : Int32), vI (S cM_nextOrder l0 (ix l5)), vI l5, vR 118 l0])) (h' := (T, S)) rfl ?_
    exact t_M_oneReady_126 scr l0 l3 l4 l5 l0 l5 (S cM_nextOrder l0 (ix l5)) (1 : Int32) S T _ _ _ _ hx hG
  · rw [if_neg hc] at hx
    refine ev_steps 2 (c' := (126, [some (vR 1 l0), _, _, some (vI l3), some (vI l4), some (vI l5), some (vI l6), _], [vI (0 : Int32), vI (S cM_nextOrder l0 (ix l5)), vI l5, vR 118 l0])) (h' := (T, S)) rfl ?_
    exact t_M_oneReady_126 scr l0 l3 l4 l5 l0 l5 (S cM_nextOrder l0 (ix l5)) (0 : Int32) S T _ _ _ _ hx hG
def f_M_oneReady_80 (l0 : Nat) (l1 : Int32) (l2 : Int32) (l3 : Int32) (l4 : Int32) (l5 : Int32) (s0 : Int32) (S : St) : Option ((Int32) ⊕ (Int32 × St)) :=
  if 0 < l4 then (if s0 = 0 then (if inb l3 1088 = true then if inb l5 6 = true then if (S cM_hisOrder l0 (ix l3)) = (S cM_nextOrder l0 (ix l5)) then exW (f_M_oneReady_108 l0 l3 l4 l5 s0 S) else f_M_oneReady_213 l0 l1 l2 S else none else none) else exW (f_M_oneReady_108 l0 l3 l4 l5 s0 S)) else f_M_oneReady_213 l0 l1 l2 S
set_option maxRecDepth 100000 in
theorem t_M_oneReady_80 (scr : Nat × (Nat → Int32)) (l0 : Nat) (l1 : Int32) (l2 : Int32) (l3 : Int32) (l4 : Int32) (l5 : Int32) (s0 : Int32) (S : St) (T : St) (d6 d7 : Option iV) {x : (Int32) ⊕ (Int32 × St)} {o : Option iV × SS} (hx : f_M_oneReady_80 l0 l1 l2 l3 l4 l5 s0 S = some x) (hG : (Sum.elim (fun q => ∀ d3 d4 d5 d6 d7 : Option iV, EB scr 1 1 2 cd_M_oneReady (2, [some (vR 1 l0), some (vI l1), some (vI q), d3, d4, d5, d6, d7], []) (T, S) o) (fun x => (some (vI x.1), (T, x.2)) = o)) x) : EB scr 1 1 2 cd_M_oneReady (80, [some (vR 1 l0), some (vI l1), some (vI l2), some (vI l3), some (vI l4), some (vI l5), d6, d7], [vI s0]) (T, S) o := by
  unfold f_M_oneReady_80 at hx
  try dsimp only at hG
  refine ev_steps 2 (c' := (84, [some (vR 1 l0), some (vI l1), some (vI l2), some (vI l3), some (vI l4), some (vI l5), some (vI s0), _], [vI l4])) (h' := (T, S)) rfl ?_
  refine ev_if_le rfl (fun hc => ?_) (fun hc => ?_)
  · rw [if_pos hc] at hx
    refine ev_steps 1 (c' := (89, [some (vR 1 l0), some (vI l1), some (vI l2), some (vI l3), some (vI l4), some (vI l5), some (vI s0), _], [vI s0])) (h' := (T, S)) rfl ?_
    refine ev_if_ne rfl (fun hc => ?_) (fun hc => ?_)
    · rw [if_pos hc] at hx
      refine ev_steps 3 (c' := (97, [some (vR 1 l0), some (vI l1), some (vI l2), some (vI l3), some (vI l4), some (vI l5), some (vI s0), _], [vI l3, vR 116 l0])) (h' := (T, S)) rfl ?_
      obtain ⟨hg, hx⟩ := ifg hx
      refine ev_iald rfl rfl rfl hg ?_
      refine ev_steps 3 (c' := (104, [some (vR 1 l0), some (vI l1), some (vI l2), some (vI l3), some (vI l4), some (vI l5), some (vI s0), _], [vI l5, vR 118 l0, vI (S cM_hisOrder l0 (ix l3))])) (h' := (T, S)) rfl ?_
      obtain ⟨hg, hx⟩ := ifg hx
      refine ev_iald rfl rfl rfl hg ?_
      refine ev_steps 0 (c' := (105, [some (vR 1 l0), some (vI l1), some (vI l2), some (vI l3), some (vI l4), some (vI l5), some (vI s0), _], [vI (S cM_nextOrder l0 (ix l5)), vI (S cM_hisOrder l0 (ix l3))])) (h' := (T, S)) rfl ?_
      refine ev_icmp_ne rfl (fun hc => ?_) (fun hc => ?_)
      · rw [if_pos hc] at hx
        obtain ⟨x, hy, rfl⟩ := exW_some hx
        replace hx := hy
        simp only [Sum.elim_inr] at hG
        exact t_M_oneReady_108 scr l0 l3 l4 l5 s0 S T _ _ _ hx hG
      · rw [if_neg hc] at hx
        exact t_M_oneReady_213 scr l0 l1 l2 S T _ _ _ _ _ hx hG
    · rw [if_neg hc] at hx
      obtain ⟨x, hy, rfl⟩ := exW_some hx
      replace hx := hy
      simp only [Sum.elim_inr] at hG
      exact t_M_oneReady_108 scr l0 l3 l4 l5 s0 S T _ _ _ hx hG
  · rw [if_neg hc] at hx
    exact t_M_oneReady_213 scr l0 l1 l2 S T _ _ _ _ _ hx hG
def f_M_oneReady_2_b (l0 : Nat) (l1 : Int32) (S : St) : (Int32) → Option ((Int32) ⊕ (Int32 × St))
  | l2 => if inb l1 2 = true then if ((S cM_latest l0 (ix l1)) + (16 : Int32)) < l2 then exW (some ((0 : Int32), S)) else (if inb (((544 : Int32) * l1) + l2) 1088 = true then if (nz (S cM_held l0 (ix (((544 : Int32) * l1) + l2)))) = 0 then f_M_oneReady_213 l0 l1 l2 S else (if inb (((544 : Int32) * l1) + l2) 1088 = true then if ((S cM_hisFlags l0 (ix (((544 : Int32) * l1) + l2))) &&& (1 : Int32)) = (1 : Int32) then (bd (f_M_wholeTo l0 l1 l2 S) (fun r247 => if inb (((544 : Int32) * l1) + l2) 1088 = true then if inb (((544 : Int32) * l1) + l2) 1088 = true then if ((S cM_hisFlags l0 (ix (((544 : Int32) * l1) + l2))) &&& (4 : Int32)) = 0 then f_M_oneReady_80 l0 l1 l2 (((544 : Int32) * l1) + l2) r247 (((3 : Int32) * l1) + (S cM_hisStream l0 (ix (((544 : Int32) * l1) + l2)))) (0 : Int32) S else f_M_oneReady_80 l0 l1 l2 (((544 : Int32) * l1) + l2) r247 (((3 : Int32) * l1) + (S cM_hisStream l0 (ix (((544 : Int32) * l1) + l2)))) (1 : Int32) S else none else none)) else f_M_oneReady_213 l0 l1 l2 S else none) else none) else none
def f_M_oneReady_2 (l0 : Nat) (l1 : Int32) (S : St) (q : Int32) : Option (Int32 × St) := iter (f_M_oneReady_2_b l0 l1 S) 4096 q
set_option maxRecDepth 100000 in
theorem t_M_oneReady_2_b (scr : Nat × (Nat → Int32)) (l0 : Nat) (l1 : Int32) (l2 : Int32) (S : St) (T : St) (d3 d4 d5 d6 d7 : Option iV) {x : (Int32) ⊕ (Int32 × St)} {o : Option iV × SS} (hx : f_M_oneReady_2_b l0 l1 S l2 = some x) (hG : (Sum.elim (fun q => ∀ d3 d4 d5 d6 d7 : Option iV, EB scr 1 1 2 cd_M_oneReady (2, [some (vR 1 l0), some (vI l1), some (vI q), d3, d4, d5, d6, d7], []) (T, S) o) (fun x => (some (vI x.1), (T, x.2)) = o)) x) : EB scr 1 1 2 cd_M_oneReady (2, [some (vR 1 l0), some (vI l1), some (vI l2), d3, d4, d5, d6, d7], []) (T, S) o := by
  unfold f_M_oneReady_2_b at hx
  dsimp only at hx
  refine ev_steps 4 (c' := (8, [some (vR 1 l0), some (vI l1), some (vI l2), _, _, _, _, _], [vI l1, vR 111 l0, vI l2])) (h' := (T, S)) rfl ?_
  obtain ⟨hg, hx⟩ := ifg hx
  refine ev_iald rfl rfl rfl hg ?_
  refine ev_steps 2 (c' := (12, [some (vR 1 l0), some (vI l1), some (vI l2), _, _, _, _, _], [vI ((S cM_latest l0 (ix l1)) + (16 : Int32)), vI l2])) (h' := (T, S)) rfl ?_
  refine ev_icmp_gt rfl (fun hc => ?_) (fun hc => ?_)
  · rw [if_pos hc] at hx
    obtain ⟨x, hy, rfl⟩ := exW_some hx
    replace hx := hy
    simp only [Sum.elim_inr] at hG
    refine ev_steps 1 (c' := (220, [some (vR 1 l0), some (vI l1), some (vI l2), _, _, _, _, _], [vI (0 : Int32)])) (h' := (T, S)) rfl ?_
    cases hx
    subst hG
    exact ev_ret rfl rfl
  · rw [if_neg hc] at hx
    refine ev_steps 9 (c' := (28, [some (vR 1 l0), some (vI l1), some (vI l2), some (vI (((544 : Int32) * l1) + l2)), _, _, _, _], [vI (((544 : Int32) * l1) + l2), vR 113 l0])) (h' := (T, S)) rfl ?_
    obtain ⟨hg, hx⟩ := ifg hx
    refine ev_bald rfl rfl hg ?_
    refine ev_steps 0 (c' := (29, [some (vR 1 l0), some (vI l1), some (vI l2), some (vI (((544 : Int32) * l1) + l2)), _, _, _, _], [vI (nz (S cM_held l0 (ix (((544 : Int32) * l1) + l2))))])) (h' := (T, S)) rfl ?_
    refine ev_if_eq rfl (fun hc => ?_) (fun hc => ?_)
    · rw [if_pos hc] at hx
      exact t_M_oneReady_213 scr l0 l1 l2 S T _ _ _ _ _ hx hG
    · rw [if_neg hc] at hx
      refine ev_steps 3 (c' := (37, [some (vR 1 l0), some (vI l1), some (vI l2), some (vI (((544 : Int32) * l1) + l2)), _, _, _, _], [vI (((544 : Int32) * l1) + l2), vR 117 l0])) (h' := (T, S)) rfl ?_
      obtain ⟨hg, hx⟩ := ifg hx
      refine ev_iald rfl rfl rfl hg ?_
      refine ev_steps 3 (c' := (41, [some (vR 1 l0), some (vI l1), some (vI l2), some (vI (((544 : Int32) * l1) + l2)), _, _, _, _], [vI (1 : Int32), vI ((S cM_hisFlags l0 (ix (((544 : Int32) * l1) + l2))) &&& (1 : Int32))])) (h' := (T, S)) rfl ?_
      refine ev_icmp_ne rfl (fun hc => ?_) (fun hc => ?_)
      · rw [if_pos hc] at hx
        refine ev_steps 3 (c' := (47, [some (vR 1 l0), some (vI l1), some (vI l2), some (vI (((544 : Int32) * l1) + l2)), _, _, _, _], [vI l2, vI l1, vR 1 l0])) (h' := (T, S)) rfl ?_
        obtain ⟨r247, hc, hx⟩ := bd_some hx
        refine ev_call rfl rfl rfl rfl rfl rfl rfl rfl rfl ((t_M_wholeTo scr l0 l1 l2 S T hc rfl).mono (by decide)) ?_
        refine ev_steps 7 (c' := (60, [some (vR 1 l0), some (vI l1), some (vI l2), some (vI (((544 : Int32) * l1) + l2)), some (vI r247), _, _, _], [vI (((544 : Int32) * l1) + l2), vR 115 l0, vI ((3 : Int32) * l1)])) (h' := (T, S)) rfl ?_
        obtain ⟨hg, hx⟩ := ifg hx
        refine ev_iald rfl rfl rfl hg ?_
        refine ev_steps 5 (c' := (69, [some (vR 1 l0), some (vI l1), some (vI l2), some (vI (((544 : Int32) * l1) + l2)), some (vI r247), some (vI (((3 : Int32) * l1) + (S cM_hisStream l0 (ix (((544 : Int32) * l1) + l2))))), _, _], [vI (((544 : Int32) * l1) + l2), vR 117 l0])) (h' := (T, S)) rfl ?_
        obtain ⟨hg, hx⟩ := ifg hx
        refine ev_iald rfl rfl rfl hg ?_
        refine ev_steps 2 (c' := (72, [some (vR 1 l0), some (vI l1), some (vI l2), some (vI (((544 : Int32) * l1) + l2)), some (vI r247), some (vI (((3 : Int32) * l1) + (S cM_hisStream l0 (ix (((544 : Int32) * l1) + l2))))), _, _], [vI ((S cM_hisFlags l0 (ix (((544 : Int32) * l1) + l2))) &&& (4 : Int32))])) (h' := (T, S)) rfl ?_
        refine ev_if_eq rfl (fun hc => ?_) (fun hc => ?_)
        · rw [if_pos hc] at hx
          refine ev_steps 1 (c' := (80, [some (vR 1 l0), some (vI l1), some (vI l2), some (vI (((544 : Int32) * l1) + l2)), some (vI r247), some (vI (((3 : Int32) * l1) + (S cM_hisStream l0 (ix (((544 : Int32) * l1) + l2))))), _, _], [vI (0 : Int32)])) (h' := (T, S)) rfl ?_
          exact t_M_oneReady_80 scr l0 l1 l2 (((544 : Int32) * l1) + l2) r247 (((3 : Int32) * l1) + (S cM_hisStream l0 (ix (((544 : Int32) * l1) + l2)))) (0 : Int32) S T _ _ hx hG
        · rw [if_neg hc] at hx
          refine ev_steps 2 (c' := (80, [some (vR 1 l0), some (vI l1), some (vI l2), some (vI (((544 : Int32) * l1) + l2)), some (vI r247), some (vI (((3 : Int32) * l1) + (S cM_hisStream l0 (ix (((544 : Int32) * l1) + l2))))), _, _], [vI (1 : Int32)])) (h' := (T, S)) rfl ?_
          exact t_M_oneReady_80 scr l0 l1 l2 (((544 : Int32) * l1) + l2) r247 (((3 : Int32) * l1) + (S cM_hisStream l0 (ix (((544 : Int32) * l1) + l2)))) (1 : Int32) S T _ _ hx hG
      · rw [if_neg hc] at hx
        exact t_M_oneReady_213 scr l0 l1 l2 S T _ _ _ _ _ hx hG
set_option maxRecDepth 100000 in
theorem t_M_oneReady_2 (scr : Nat × (Nat → Int32)) (l0 : Nat) (l1 : Int32) (l2 : Int32) (S : St) (T : St) (d3 d4 d5 d6 d7 : Option iV) {x : Int32 × St} {o : Option iV × SS} (hx : f_M_oneReady_2 l0 l1 S l2 = some x) (hG : (fun x => (some (vI x.1), (T, x.2)) = o) x) : EB scr 1 1 2 cd_M_oneReady (2, [some (vR 1 l0), some (vI l1), some (vI l2), d3, d4, d5, d6, d7], []) (T, S) o := by
  exact iter_ind (P := fun q => ∀ d3 d4 d5 d6 d7 : Option iV, EB scr 1 1 2 cd_M_oneReady (2, [some (vR 1 l0), some (vI l1), some (vI q), d3, d4, d5, d6, d7], []) (T, S) o) (G := fun x => (some (vI x.1), (T, x.2)) = o) (fun q x hb hP d3 d4 d5 d6 d7 => t_M_oneReady_2_b scr l0 l1 q S T d3 d4 d5 d6 d7 hb hP) hx hG d3 d4 d5 d6 d7
def f_M_oneReady (u : Nat) (a1 : Int32) (S : St) : Option (Int32 × St) :=
  f_M_oneReady_2 u a1 S (1 : Int32)
set_option maxRecDepth 100000 in
theorem t_M_oneReady (scr : Nat × (Nat → Int32)) (u : Nat) (a1 : Int32) (S T : St) {x : Int32 × St} {o : Option iV × SS} (hx : f_M_oneReady u a1 S = some x) (hG : (some (vI x.1), (T, x.2)) = o) : E0 scr 2 60 [vR 1 u, vI a1] (T, S) o := by
  refine ev_meth (ls := [some (vR 1 u), some (vI a1), none, none, none, none, none, none]) rfl rfl rfl ?_
  unfold f_M_oneReady at hx
  refine ev_steps 2 (c' := (2, [some (vR 1 u), some (vI a1), some (vI (1 : Int32)), none, none, none, none, none], [])) (h' := (T, S)) rfl ?_
  exact t_M_oneReady_2 scr u a1 (1 : Int32) S T _ _ _ _ _ hx hG
-- M_data
def f_M_data_338 (s0 : Nat) (s1 : Int32) (s2 : Int32) (S : St) : Option (St) :=
  bd (f_M_more s0 s1 s2 (0 : Int32) (0 : Int32) (0 : Int32) S) (fun S254 => some S254)
set_option maxRecDepth 100000 in
theorem t_M_data_338 (scr : Nat × (Nat → Int32)) (s0 : Nat) (s1 : Int32) (s2 : Int32) (S : St) (T : St) (d0 d1 d2 d3 d4 d5 d6 d7 : Option iV) {x : St} {o : Option iV × SS} (hx : f_M_data_338 s0 s1 s2 S = some x) (hG : (fun x => (none, (T, x)) = o) x) : EB scr 2 1 0 cd_M_data (338, [d0, d1, d2, d3, d4, d5, d6, d7], [vI s2, vI s1, vR 1 s0]) (T, S) o := by
  unfold f_M_data_338 at hx
  try dsimp only at hG
  refine ev_steps 3 (c' := (341, [_, _, _, _, _, _, _, _], [vI (0 : Int32), vI (0 : Int32), vI (0 : Int32), vI s2, vI s1, vR 1 s0])) (h' := (T, S)) rfl ?_
  obtain ⟨S254, hc, hx⟩ := bd_some hx
  refine ev_call rfl rfl rfl rfl rfl rfl rfl rfl rfl ((t_M_more scr s0 s1 s2 (0 : Int32) (0 : Int32) (0 : Int32) S T hc rfl).mono (by decide)) ?_
  refine ev_steps 0 (c' := (344, [_, _, _, _, _, _, _, _], [])) (h' := (T, S254)) rfl ?_
  cases hx
  subst hG
  exact ev_ret rfl rfl
def f_M_data_266 (l0 : Nat) (l1 : Int32) (l2 : Int32) (l6 : Int32) (s0 : Int32) (S : St) : Option ((Int32 × Int32) ⊕ (St)) :=
  some (Sum.inl (s0, l6 + (1 : Int32)))
set_option maxRecDepth 100000 in
theorem t_M_data_266 (scr : Nat × (Nat → Int32)) (l0 : Nat) (l1 : Int32) (l2 : Int32) (l6 : Int32) (s0 : Int32) (S : St) (T : St) (d3 d4 d5 d7 : Option iV) {x : (Int32 × Int32) ⊕ (St)} {o : Option iV × SS} (hx : f_M_data_266 l0 l1 l2 l6 s0 S = some x) (hG : (Sum.elim (fun q => ∀ d3 d4 d7 : Option iV, EB scr 2 1 0 cd_M_data (222, [some (vR 1 l0), some (vI l1), some (vI l2), d3, d4, some (vI q.1), some (vI q.2), d7], []) (T, S) o) (fun x => (none, (T, x)) = o)) x) : EB scr 2 1 0 cd_M_data (266, [some (vR 1 l0), some (vI l1), some (vI l2), d3, d4, d5, some (vI l6), d7], [vI s0]) (T, S) o := by
  unfold f_M_data_266 at hx
  try dsimp only at hG
  refine ev_steps 3 (c' := (222, [some (vR 1 l0), some (vI l1), some (vI l2), _, _, some (vI s0), some (vI (l6 + (1 : Int32))), _], [])) (h' := (T, S)) rfl ?_
  cases hx
  exact hG _ _ _
def f_M_data_222_b (l0 : Nat) (l1 : Int32) (l2 : Int32) (S : St) : (Int32 × Int32) → Option ((Int32 × Int32) ⊕ (St))
  | (l5, l6) => if l6 < (16 : Int32) then (if inb l1 2 = true then if inb (((((544 : Int32) * l1) + (S cM_latest l0 (ix l1))) + (1 : Int32)) + l6) 1088 = true then if (nz (S cM_had l0 (ix (((((544 : Int32) * l1) + (S cM_latest l0 (ix l1))) + (1 : Int32)) + l6)))) = 0 then f_M_data_266 l0 l1 l2 l6 l5 S else f_M_data_266 l0 l1 l2 l6 (l5 ||| (iShl (1 : Int32) l6)) S else none else none) else exW (bd (f_M_full l0 l1 l2 S) (fun r249 => if inb l1 2 = true then if inb l1 2 = true then if inb l1 2 = true then bd (f_M_post l0 l1 l2 (S cM_other l0 (ix l1)) (5 : Int32) (S cM_latest l0 (ix l1)) l5 S) (fun S252 => if r249 = 0 then (if ((S cM_room l0 0) - (S cM_kept l0 (ix l1))) < 0 then f_M_data_338 l0 (((2 : Int32) * l1) + l2) (0 : Int32) S252 else f_M_data_338 l0 (((2 : Int32) * l1) + l2) ((S cM_room l0 0) - (S cM_kept l0 (ix l1))) S252) else some S252) else none else none else none))
def f_M_data_222 (l0 : Nat) (l1 : Int32) (l2 : Int32) (S : St) (q : Int32 × Int32) : Option (St) := iter (f_M_data_222_b l0 l1 l2 S) 4096 q
set_option maxRecDepth 100000 in
theorem t_M_data_222_b (scr : Nat × (Nat → Int32)) (l0 : Nat) (l1 : Int32) (l2 : Int32) (l5 : Int32) (l6 : Int32) (S : St) (T : St) (d3 d4 d7 : Option iV) {x : (Int32 × Int32) ⊕ (St)} {o : Option iV × SS} (hx : f_M_data_222_b l0 l1 l2 S (l5, l6) = some x) (hG : (Sum.elim (fun q => ∀ d3 d4 d7 : Option iV, EB scr 2 1 0 cd_M_data (222, [some (vR 1 l0), some (vI l1), some (vI l2), d3, d4, some (vI q.1), some (vI q.2), d7], []) (T, S) o) (fun x => (none, (T, x)) = o)) x) : EB scr 2 1 0 cd_M_data (222, [some (vR 1 l0), some (vI l1), some (vI l2), d3, d4, some (vI l5), some (vI l6), d7], []) (T, S) o := by
  unfold f_M_data_222_b at hx
  dsimp only at hx
  refine ev_steps 2 (c' := (226, [some (vR 1 l0), some (vI l1), some (vI l2), _, _, some (vI l5), some (vI l6), _], [vI (16 : Int32), vI l6])) (h' := (T, S)) rfl ?_
  refine ev_icmp_ge rfl (fun hc => ?_) (fun hc => ?_)
  · rw [if_pos hc] at hx
    refine ev_steps 8 (c' := (243, [some (vR 1 l0), some (vI l1), some (vI l2), _, _, some (vI l5), some (vI l6), _], [vI l1, vR 111 l0, vI ((544 : Int32) * l1), vR 112 l0])) (h' := (T, S)) rfl ?_
    obtain ⟨hg, hx⟩ := ifg hx
    refine ev_iald rfl rfl rfl hg ?_
    refine ev_steps 5 (c' := (250, [some (vR 1 l0), some (vI l1), some (vI l2), _, _, some (vI l5), some (vI l6), _], [vI (((((544 : Int32) * l1) + (S cM_latest l0 (ix l1))) + (1 : Int32)) + l6), vR 112 l0])) (h' := (T, S)) rfl ?_
    obtain ⟨hg, hx⟩ := ifg hx
    refine ev_bald rfl rfl hg ?_
    refine ev_steps 0 (c' := (251, [some (vR 1 l0), some (vI l1), some (vI l2), _, _, some (vI l5), some (vI l6), _], [vI (nz (S cM_had l0 (ix (((((544 : Int32) * l1) + (S cM_latest l0 (ix l1))) + (1 : Int32)) + l6))))])) (h' := (T, S)) rfl ?_
    refine ev_if_eq rfl (fun hc => ?_) (fun hc => ?_)
    · rw [if_pos hc] at hx
      refine ev_steps 1 (c' := (266, [some (vR 1 l0), some (vI l1), some (vI l2), _, _, some (vI l5), some (vI l6), _], [vI l5])) (h' := (T, S)) rfl ?_
      exact t_M_data_266 scr l0 l1 l2 l6 l5 S T _ _ _ _ hx hG
    · rw [if_neg hc] at hx
      refine ev_steps 6 (c' := (266, [some (vR 1 l0), some (vI l1), some (vI l2), _, _, some (vI l5), some (vI l6), _], [vI (l5 ||| (iShl (1 : Int32) l6))])) (h' := (T, S)) rfl ?_
      exact t_M_data_266 scr l0 l1 l2 l6 (l5 ||| (iShl (1 : Int32) l6)) S T _ _ _ _ hx hG
  · rw [if_neg hc] at hx
    obtain ⟨x, hy, rfl⟩ := exW_some hx
    replace hx := hy
    simp only [Sum.elim_inr] at hG
    refine ev_steps 3 (c' := (277, [some (vR 1 l0), some (vI l1), some (vI l2), _, _, some (vI l5), some (vI l6), _], [vI l2, vI l1, vR 1 l0])) (h' := (T, S)) rfl ?_
    obtain ⟨r249, hc, hx⟩ := bd_some hx
    refine ev_call rfl rfl rfl rfl rfl rfl rfl rfl rfl ((t_M_full scr l0 l1 l2 S T hc rfl).mono (by decide)) ?_
    refine ev_steps 6 (c' := (291, [some (vR 1 l0), some (vI l1), some (vI l2), _, _, some (vI l5), some (vI r249), _], [vI l1, vR 119 l0, vI (S cM_room l0 0)])) (h' := (T, S)) rfl ?_
    obtain ⟨hg, hx⟩ := ifg hx
    refine ev_iald rfl rfl rfl hg ?_
    refine ev_steps 8 (c' := (303, [some (vR 1 l0), some (vI l1), some (vI l2), _, _, some (vI l5), some (vI r249), some (vI ((S cM_room l0 0) - (S cM_kept l0 (ix l1))))], [vI l1, vR 81 l0, vI l2, vI l1, vR 1 l0])) (h' := (T, S)) rfl ?_
    obtain ⟨hg, hx⟩ := ifg hx
    refine ev_iald rfl rfl rfl hg ?_
    refine ev_steps 4 (c' := (310, [some (vR 1 l0), some (vI l1), some (vI l2), _, _, some (vI l5), some (vI r249), some (vI ((S cM_room l0 0) - (S cM_kept l0 (ix l1))))], [vI l1, vR 111 l0, vI (5 : Int32), vI (S cM_other l0 (ix l1)), vI l2, vI l1, vR 1 l0])) (h' := (T, S)) rfl ?_
    obtain ⟨hg, hx⟩ := ifg hx
    refine ev_iald rfl rfl rfl hg ?_
    refine ev_steps 1 (c' := (313, [some (vR 1 l0), some (vI l1), some (vI l2), _, _, some (vI l5), some (vI r249), some (vI ((S cM_room l0 0) - (S cM_kept l0 (ix l1))))], [vI l5, vI (S cM_latest l0 (ix l1)), vI (5 : Int32), vI (S cM_other l0 (ix l1)), vI l2, vI l1, vR 1 l0])) (h' := (T, S)) rfl ?_
    obtain ⟨S252, hc, hx⟩ := bd_some hx
    refine ev_call rfl rfl rfl rfl rfl rfl rfl rfl rfl ((t_M_post scr l0 l1 l2 (S cM_other l0 (ix l1)) (5 : Int32) (S cM_latest l0 (ix l1)) l5 S T hc rfl).mono (by decide)) ?_
    refine ev_steps 1 (c' := (318, [some (vR 1 l0), some (vI l1), some (vI l2), _, _, some (vI l5), some (vI r249), some (vI ((S cM_room l0 0) - (S cM_kept l0 (ix l1))))], [vI r249])) (h' := (T, S252)) rfl ?_
    refine ev_if_ne rfl (fun hc => ?_) (fun hc => ?_)
    · rw [if_pos hc] at hx
      refine ev_steps 7 (c' := (329, [some (vR 1 l0), some (vI l1), some (vI l2), _, _, some (vI l5), some (vI r249), some (vI ((S cM_room l0 0) - (S cM_kept l0 (ix l1))))], [vI ((S cM_room l0 0) - (S cM_kept l0 (ix l1))), vI (((2 : Int32) * l1) + l2), vR 1 l0])) (h' := (T, S252)) rfl ?_
      refine ev_if_ge rfl (fun hc => ?_) (fun hc => ?_)
      · rw [if_pos hc] at hx
        refine ev_steps 2 (c' := (338, [some (vR 1 l0), some (vI l1), some (vI l2), _, _, some (vI l5), some (vI r249), some (vI ((S cM_room l0 0) - (S cM_kept l0 (ix l1))))], [vI (0 : Int32), vI (((2 : Int32) * l1) + l2), vR 1 l0])) (h' := (T, S252)) rfl ?_
        exact t_M_data_338 scr l0 (((2 : Int32) * l1) + l2) (0 : Int32) S252 T _ _ _ _ _ _ _ _ hx hG
      · rw [if_neg hc] at hx
        refine ev_steps 1 (c' := (338, [some (vR 1 l0), some (vI l1), some (vI l2), _, _, some (vI l5), some (vI r249), some (vI ((S cM_room l0 0) - (S cM_kept l0 (ix l1))))], [vI ((S cM_room l0 0) - (S cM_kept l0 (ix l1))), vI (((2 : Int32) * l1) + l2), vR 1 l0])) (h' := (T, S252)) rfl ?_
        exact t_M_data_338 scr l0 (((2 : Int32) * l1) + l2) ((S cM_room l0 0) - (S cM_kept l0 (ix l1))) S252 T _ _ _ _ _ _ _ _ hx hG
    · rw [if_neg hc] at hx
      cases hx
      subst hG
      exact ev_ret rfl rfl
set_option maxRecDepth 100000 in
theorem t_M_data_222 (scr : Nat × (Nat → Int32)) (l0 : Nat) (l1 : Int32) (l2 : Int32) (l5 : Int32) (l6 : Int32) (S : St) (T : St) (d3 d4 d7 : Option iV) {x : St} {o : Option iV × SS} (hx : f_M_data_222 l0 l1 l2 S (l5, l6) = some x) (hG : (fun x => (none, (T, x)) = o) x) : EB scr 2 1 0 cd_M_data (222, [some (vR 1 l0), some (vI l1), some (vI l2), d3, d4, some (vI l5), some (vI l6), d7], []) (T, S) o := by
  exact iter_ind (P := fun q => ∀ d3 d4 d7 : Option iV, EB scr 2 1 0 cd_M_data (222, [some (vR 1 l0), some (vI l1), some (vI l2), d3, d4, some (vI q.1), some (vI q.2), d7], []) (T, S) o) (G := fun x => (none, (T, x)) = o) (fun q x hb hP d3 d4 d7 => t_M_data_222_b scr l0 l1 l2 q.1 q.2 S T d3 d4 d7 hb hP) hx hG d3 d4 d7
def f_M_data_216 (l0 : Nat) (l1 : Int32) (l2 : Int32) (S : St) : Option (St) :=
  f_M_data_222 l0 l1 l2 S ((0 : Int32), (0 : Int32))
set_option maxRecDepth 100000 in
theorem t_M_data_216 (scr : Nat × (Nat → Int32)) (l0 : Nat) (l1 : Int32) (l2 : Int32) (S : St) (T : St) (d3 d4 d5 d6 d7 : Option iV) {x : St} {o : Option iV × SS} (hx : f_M_data_216 l0 l1 l2 S = some x) (hG : (fun x => (none, (T, x)) = o) x) : EB scr 2 1 0 cd_M_data (216, [some (vR 1 l0), some (vI l1), some (vI l2), d3, d4, d5, d6, d7], []) (T, S) o := by
  unfold f_M_data_216 at hx
  try dsimp only at hG
  refine ev_steps 4 (c' := (222, [some (vR 1 l0), some (vI l1), some (vI l2), _, _, some (vI (0 : Int32)), some (vI (0 : Int32)), _], [])) (h' := (T, S)) rfl ?_
  exact t_M_data_222 scr l0 l1 l2 (0 : Int32) (0 : Int32) S T _ _ _ hx hG
def f_M_data_201_b (l0 : Nat) (l1 : Int32) (l2 : Int32)  : (Int32 × St) → Option ((Int32 × St) ⊕ (St))
  | (l6, S) => if l6 = 0 then exW (f_M_data_216 l0 l1 l2 S) else (bd2 (f_M_oneReady l0 l1 S) (fun r257 S258 => some (Sum.inl (r257, S258))))
def f_M_data_201 (l0 : Nat) (l1 : Int32) (l2 : Int32)  (q : Int32 × St) : Option (St) := iter (f_M_data_201_b l0 l1 l2) 4096 q
set_option maxRecDepth 100000 in
theorem t_M_data_201_b (scr : Nat × (Nat → Int32)) (l0 : Nat) (l1 : Int32) (l2 : Int32) (l6 : Int32) (S : St) (T : St) (d3 d4 d5 d7 : Option iV) {x : (Int32 × St) ⊕ (St)} {o : Option iV × SS} (hx : f_M_data_201_b l0 l1 l2 (l6, S) = some x) (hG : (Sum.elim (fun q => ∀ d3 d4 d5 d7 : Option iV, EB scr 2 1 0 cd_M_data (201, [some (vR 1 l0), some (vI l1), some (vI l2), d3, d4, d5, some (vI q.1), d7], []) (T, q.2) o) (fun x => (none, (T, x)) = o)) x) : EB scr 2 1 0 cd_M_data (201, [some (vR 1 l0), some (vI l1), some (vI l2), d3, d4, d5, some (vI l6), d7], []) (T, S) o := by
  unfold f_M_data_201_b at hx
  dsimp only at hx
  refine ev_steps 1 (c' := (203, [some (vR 1 l0), some (vI l1), some (vI l2), _, _, _, some (vI l6), _], [vI l6])) (h' := (T, S)) rfl ?_
  refine ev_if_eq rfl (fun hc => ?_) (fun hc => ?_)
  · rw [if_pos hc] at hx
    obtain ⟨x, hy, rfl⟩ := exW_some hx
    replace hx := hy
    simp only [Sum.elim_inr] at hG
    exact t_M_data_216 scr l0 l1 l2 S T _ _ _ _ _ hx hG
  · rw [if_neg hc] at hx
    refine ev_steps 2 (c' := (208, [some (vR 1 l0), some (vI l1), some (vI l2), _, _, _, some (vI l6), _], [vI l1, vR 1 l0])) (h' := (T, S)) rfl ?_
    obtain ⟨r257, S258, hc, hx⟩ := bd2_some hx
    refine ev_call rfl rfl rfl rfl rfl rfl rfl rfl rfl ((t_M_oneReady scr l0 l1 S T hc rfl).mono (by decide)) ?_
    refine ev_steps 2 (c' := (201, [some (vR 1 l0), some (vI l1), some (vI l2), _, _, _, some (vI r257), _], [])) (h' := (T, S258)) rfl ?_
    cases hx
    exact hG _ _ _ _
set_option maxRecDepth 100000 in
theorem t_M_data_201 (scr : Nat × (Nat → Int32)) (l0 : Nat) (l1 : Int32) (l2 : Int32) (l6 : Int32) (S : St) (T : St) (d3 d4 d5 d7 : Option iV) {x : St} {o : Option iV × SS} (hx : f_M_data_201 l0 l1 l2 (l6, S) = some x) (hG : (fun x => (none, (T, x)) = o) x) : EB scr 2 1 0 cd_M_data (201, [some (vR 1 l0), some (vI l1), some (vI l2), d3, d4, d5, some (vI l6), d7], []) (T, S) o := by
  exact iter_ind (P := fun q => ∀ d3 d4 d5 d7 : Option iV, EB scr 2 1 0 cd_M_data (201, [some (vR 1 l0), some (vI l1), some (vI l2), d3, d4, d5, some (vI q.1), d7], []) (T, q.2) o) (G := fun x => (none, (T, x)) = o) (fun q x hb hP d3 d4 d5 d7 => t_M_data_201_b scr l0 l1 l2 q.1 q.2 T d3 d4 d5 d7 hb hP) hx hG d3 d4 d5 d7
def f_M_data_159_b (l0 : Nat) (l1 : Int32) (l2 : Int32)  : (St) → Option ((St) ⊕ (St))
  | S => if inb l1 2 = true then if inb ((((544 : Int32) * l1) + (S cM_latest l0 (ix l1))) + (1 : Int32)) 1088 = true then if (nz (S cM_had l0 (ix ((((544 : Int32) * l1) + (S cM_latest l0 (ix l1))) + (1 : Int32))))) = 0 then exW (bd2 (f_M_oneReady l0 l1 S) (fun r255 S256 => f_M_data_201 l0 l1 l2 (r255, S256))) else (if inb l1 2 = true then if inb l1 2 = true then some (Sum.inl (up3 S cM_latest l0 (ix l1) ((S cM_latest l0 (ix l1)) + (1 : Int32)))) else none else none) else none else none
def f_M_data_159 (l0 : Nat) (l1 : Int32) (l2 : Int32)  (q : St) : Option (St) := iter (f_M_data_159_b l0 l1 l2) 4096 q
set_option maxRecDepth 100000 in
theorem t_M_data_159_b (scr : Nat × (Nat → Int32)) (l0 : Nat) (l1 : Int32) (l2 : Int32) (S : St) (T : St) (d3 d4 d5 d6 d7 : Option iV) {x : (St) ⊕ (St)} {o : Option iV × SS} (hx : f_M_data_159_b l0 l1 l2 S = some x) (hG : (Sum.elim (fun q => ∀ d3 d4 d5 d6 d7 : Option iV, EB scr 2 1 0 cd_M_data (159, [some (vR 1 l0), some (vI l1), some (vI l2), d3, d4, d5, d6, d7], []) (T, q) o) (fun x => (none, (T, x)) = o)) x) : EB scr 2 1 0 cd_M_data (159, [some (vR 1 l0), some (vI l1), some (vI l2), d3, d4, d5, d6, d7], []) (T, S) o := by
  unfold f_M_data_159_b at hx
  dsimp only at hx
  refine ev_steps 8 (c' := (173, [some (vR 1 l0), some (vI l1), some (vI l2), _, _, _, _, _], [vI l1, vR 111 l0, vI ((544 : Int32) * l1), vR 112 l0])) (h' := (T, S)) rfl ?_
  obtain ⟨hg, hx⟩ := ifg hx
  refine ev_iald rfl rfl rfl hg ?_
  refine ev_steps 3 (c' := (177, [some (vR 1 l0), some (vI l1), some (vI l2), _, _, _, _, _], [vI ((((544 : Int32) * l1) + (S cM_latest l0 (ix l1))) + (1 : Int32)), vR 112 l0])) (h' := (T, S)) rfl ?_
  obtain ⟨hg, hx⟩ := ifg hx
  refine ev_bald rfl rfl hg ?_
  refine ev_steps 0 (c' := (178, [some (vR 1 l0), some (vI l1), some (vI l2), _, _, _, _, _], [vI (nz (S cM_had l0 (ix ((((544 : Int32) * l1) + (S cM_latest l0 (ix l1))) + (1 : Int32)))))])) (h' := (T, S)) rfl ?_
  refine ev_if_eq rfl (fun hc => ?_) (fun hc => ?_)
  · rw [if_pos hc] at hx
    obtain ⟨x, hy, rfl⟩ := exW_some hx
    replace hx := hy
    simp only [Sum.elim_inr] at hG
    refine ev_steps 2 (c' := (196, [some (vR 1 l0), some (vI l1), some (vI l2), _, _, _, _, _], [vI l1, vR 1 l0])) (h' := (T, S)) rfl ?_
    obtain ⟨r255, S256, hc, hx⟩ := bd2_some hx
    refine ev_call rfl rfl rfl rfl rfl rfl rfl rfl rfl ((t_M_oneReady scr l0 l1 S T hc rfl).mono (by decide)) ?_
    refine ev_steps 1 (c' := (201, [some (vR 1 l0), some (vI l1), some (vI l2), _, _, _, some (vI r255), _], [])) (h' := (T, S256)) rfl ?_
    exact t_M_data_201 scr l0 l1 l2 r255 S256 T _ _ _ _ hx hG
  · rw [if_neg hc] at hx
    refine ev_steps 4 (c' := (187, [some (vR 1 l0), some (vI l1), some (vI l2), _, _, _, _, _], [vI l1, vR 111 l0, vI l1, vR 111 l0])) (h' := (T, S)) rfl ?_
    obtain ⟨hg, hx⟩ := ifg hx
    refine ev_iald rfl rfl rfl hg ?_
    refine ev_steps 2 (c' := (190, [some (vR 1 l0), some (vI l1), some (vI l2), _, _, _, _, _], [vI ((S cM_latest l0 (ix l1)) + (1 : Int32)), vI l1, vR 111 l0])) (h' := (T, S)) rfl ?_
    obtain ⟨hg, hx⟩ := ifg hx
    refine ev_iast rfl rfl hg ?_
    refine ev_steps 1 (c' := (159, [some (vR 1 l0), some (vI l1), some (vI l2), _, _, _, _, _], [])) (h' := (T, up3 S cM_latest l0 (ix l1) ((S cM_latest l0 (ix l1)) + (1 : Int32)))) rfl ?_
    cases hx
    exact hG _ _ _ _ _
set_option maxRecDepth 100000 in
theorem t_M_data_159 (scr : Nat × (Nat → Int32)) (l0 : Nat) (l1 : Int32) (l2 : Int32) (S : St) (T : St) (d3 d4 d5 d6 d7 : Option iV) {x : St} {o : Option iV × SS} (hx : f_M_data_159 l0 l1 l2 S = some x) (hG : (fun x => (none, (T, x)) = o) x) : EB scr 2 1 0 cd_M_data (159, [some (vR 1 l0), some (vI l1), some (vI l2), d3, d4, d5, d6, d7], []) (T, S) o := by
  exact iter_ind (P := fun q => ∀ d3 d4 d5 d6 d7 : Option iV, EB scr 2 1 0 cd_M_data (159, [some (vR 1 l0), some (vI l1), some (vI l2), d3, d4, d5, d6, d7], []) (T, q) o) (G := fun x => (none, (T, x)) = o) (fun q x hb hP d3 d4 d5 d6 d7 => t_M_data_159_b scr l0 l1 l2 q T d3 d4 d5 d6 d7 hb hP) hx hG d3 d4 d5 d6 d7
def f_M_data_64 (l0 : Nat) (l1 : Int32) (l2 : Int32) (l3 : Int32) (s0 : Int32) (S : St) : Option (St) :=
  if s0 = 0 then (if inb (((544 : Int32) * l1) + l3) 1088 = true then if inb (((544 : Int32) * l1) + l3) 1088 = true then if inb (3 : Int32) 8 = true then if inb (((544 : Int32) * l1) + l3) 1088 = true then if inb (4 : Int32) 8 = true then if inb (((544 : Int32) * l1) + l3) 1088 = true then if inb (5 : Int32) 8 = true then if inb (((544 : Int32) * l1) + l3) 1088 = true then if inb (6 : Int32) 8 = true then if inb (((544 : Int32) * l1) + l3) 1088 = true then if inb l1 2 = true then if inb l1 2 = true then f_M_data_159 l0 l1 l2 (up3 (up3 (up3 (up3 (up3 (up3 (up3 S cM_had l0 (ix (((544 : Int32) * l1) + l3)) (1 : Int32)) cM_held l0 (ix (((544 : Int32) * l1) + l3)) (1 : Int32)) cM_hisValue l0 (ix (((544 : Int32) * l1) + l3)) (S cM_arrived l0 (ix (3 : Int32)))) cM_hisStream l0 (ix (((544 : Int32) * l1) + l3)) (S cM_arrived l0 (ix (4 : Int32)))) cM_hisOrder l0 (ix (((544 : Int32) * l1) + l3)) (S cM_arrived l0 (ix (5 : Int32)))) cM_hisFlags l0 (ix (((544 : Int32) * l1) + l3)) (S cM_arrived l0 (ix (6 : Int32)))) cM_kept l0 (ix l1) ((S cM_kept l0 (ix l1)) + (1 : Int32))) else none else none else none else none else none else none else none else none else none else none else none else none) else f_M_data_216 l0 l1 l2 S
set_option maxRecDepth 100000 in
theorem t_M_data_64 (scr : Nat × (Nat → Int32)) (l0 : Nat) (l1 : Int32) (l2 : Int32) (l3 : Int32) (s0 : Int32) (S : St) (T : St) (d4 d5 d6 d7 : Option iV) {x : St} {o : Option iV × SS} (hx : f_M_data_64 l0 l1 l2 l3 s0 S = some x) (hG : (fun x => (none, (T, x)) = o) x) : EB scr 2 1 0 cd_M_data (64, [some (vR 1 l0), some (vI l1), some (vI l2), some (vI l3), d4, d5, d6, d7], [vI s0]) (T, S) o := by
  unfold f_M_data_64 at hx
  try dsimp only at hG
  refine ev_steps 2 (c' := (68, [some (vR 1 l0), some (vI l1), some (vI l2), some (vI l3), some (vI s0), _, _, _], [vI s0])) (h' := (T, S)) rfl ?_
  refine ev_if_ne rfl (fun hc => ?_) (fun hc => ?_)
  · rw [if_pos hc] at hx
    refine ev_steps 10 (c' := (87, [some (vR 1 l0), some (vI l1), some (vI l2), some (vI l3), some (vI s0), some (vI (((544 : Int32) * l1) + l3)), _, _], [vI (1 : Int32), vI (((544 : Int32) * l1) + l3), vR 112 l0])) (h' := (T, S)) rfl ?_
    obtain ⟨hg, hx⟩ := ifg hx
    refine ev_bast rfl rfl hg rfl ?_
    refine ev_steps 4 (c' := (95, [some (vR 1 l0), some (vI l1), some (vI l2), some (vI l3), some (vI s0), some (vI (((544 : Int32) * l1) + l3)), _, _], [vI (1 : Int32), vI (((544 : Int32) * l1) + l3), vR 113 l0])) (h' := (T, up3 S cM_had l0 (ix (((544 : Int32) * l1) + l3)) (1 : Int32))) rfl ?_
    obtain ⟨hg, hx⟩ := ifg hx
    refine ev_bast rfl rfl hg rfl ?_
    refine ev_steps 6 (c' := (107, [some (vR 1 l0), some (vI l1), some (vI l2), some (vI l3), some (vI s0), some (vI (((544 : Int32) * l1) + l3)), _, _], [vI (3 : Int32), vR 78 l0, vI (((544 : Int32) * l1) + l3), vR 114 l0])) (h' := (T, up3 (up3 S cM_had l0 (ix (((544 : Int32) * l1) + l3)) (1 : Int32)) cM_held l0 (ix (((544 : Int32) * l1) + l3)) (1 : Int32))) rfl ?_
    obtain ⟨hg, hx⟩ := ifg hx
    refine ev_iald rfl rfl rfl hg ?_
    refine ev_steps 0 (c' := (108, [some (vR 1 l0), some (vI l1), some (vI l2), some (vI l3), some (vI s0), some (vI (((544 : Int32) * l1) + l3)), _, _], [vI (S cM_arrived l0 (ix (3 : Int32))), vI (((544 : Int32) * l1) + l3), vR 114 l0])) (h' := (T, up3 (up3 S cM_had l0 (ix (((544 : Int32) * l1) + l3)) (1 : Int32)) cM_held l0 (ix (((544 : Int32) * l1) + l3)) (1 : Int32))) rfl ?_
    obtain ⟨hg, hx⟩ := ifg hx
    refine ev_iast rfl rfl hg ?_
    refine ev_steps 6 (c' := (120, [some (vR 1 l0), some (vI l1), some (vI l2), some (vI l3), some (vI s0), some (vI (((544 : Int32) * l1) + l3)), _, _], [vI (4 : Int32), vR 78 l0, vI (((544 : Int32) * l1) + l3), vR 115 l0])) (h' := (T, up3 (up3 (up3 S cM_had l0 (ix (((544 : Int32) * l1) + l3)) (1 : Int32)) cM_held l0 (ix (((544 : Int32) * l1) + l3)) (1 : Int32)) cM_hisValue l0 (ix (((544 : Int32) * l1) + l3)) (S cM_arrived l0 (ix (3 : Int32))))) rfl ?_
    obtain ⟨hg, hx⟩ := ifg hx
    refine ev_iald rfl rfl rfl hg ?_
    refine ev_steps 0 (c' := (121, [some (vR 1 l0), some (vI l1), some (vI l2), some (vI l3), some (vI s0), some (vI (((544 : Int32) * l1) + l3)), _, _], [vI (S cM_arrived l0 (ix (4 : Int32))), vI (((544 : Int32) * l1) + l3), vR 115 l0])) (h' := (T, up3 (up3 (up3 S cM_had l0 (ix (((544 : Int32) * l1) + l3)) (1 : Int32)) cM_held l0 (ix (((544 : Int32) * l1) + l3)) (1 : Int32)) cM_hisValue l0 (ix (((544 : Int32) * l1) + l3)) (S cM_arrived l0 (ix (3 : Int32))))) rfl ?_
    obtain ⟨hg, hx⟩ := ifg hx
    refine ev_iast rfl rfl hg ?_
    refine ev_steps 6 (c' := (133, [some (vR 1 l0), some (vI l1), some (vI l2), some (vI l3), some (vI s0), some (vI (((544 : Int32) * l1) + l3)), _, _], [vI (5 : Int32), vR 78 l0, vI (((544 : Int32) * l1) + l3), vR 116 l0])) (h' := (T, up3 (up3 (up3 (up3 S cM_had l0 (ix (((544 : Int32) * l1) + l3)) (1 : Int32)) cM_held l0 (ix (((544 : Int32) * l1) + l3)) (1 : Int32)) cM_hisValue l0 (ix (((544 : Int32) * l1) + l3)) (S cM_arrived l0 (ix (3 : Int32)))) cM_hisStream l0 (ix (((544 : Int32) * l1) + l3)) (S cM_arrived l0 (ix (4 : Int32))))) rfl ?_
    obtain ⟨hg, hx⟩ := ifg hx
    refine ev_iald rfl rfl rfl hg ?_
    refine ev_steps 0 (c' := (134, [some (vR 1 l0), some (vI l1), some (vI l2), some (vI l3), some (vI s0), some (vI (((544 : Int32) * l1) + l3)), _, _], [vI (S cM_arrived l0 (ix (5 : Int32))), vI (((544 : Int32) * l1) + l3), vR 116 l0])) (h' := (T, up3 (up3 (up3 (up3 S cM_had l0 (ix (((544 : Int32) * l1) + l3)) (1 : Int32)) cM_held l0 (ix (((544 : Int32) * l1) + l3)) (1 : Int32)) cM_hisValue l0 (ix (((544 : Int32) * l1) + l3)) (S cM_arrived l0 (ix (3 : Int32)))) cM_hisStream l0 (ix (((544 : Int32) * l1) + l3)) (S cM_arrived l0 (ix (4 : Int32))))) rfl ?_
    obtain ⟨hg, hx⟩ := ifg hx
    refine ev_iast rfl rfl hg ?_
    refine ev_steps 6 (c' := (147, [some (vR 1 l0), some (vI l1), some (vI l2), some (vI l3), some (vI s0), some (vI (((544 : Int32) * l1) + l3)), _, _], [vI (6 : Int32), vR 78 l0, vI (((544 : Int32) * l1) + l3), vR 117 l0])) (h' := (T, up3 (up3 (up3 (up3 (up3 S cM_had l0 (ix (((544 : Int32) * l1) + l3)) (1 : Int32)) cM_held l0 (ix (((544 : Int32) * l1) + l3)) (1 : Int32)) cM_hisValue l0 (ix (((544 : Int32) * l1) + l3)) (S cM_arrived l0 (ix (3 : Int32)))) cM_hisStream l0 (ix (((544 : Int32) * l1) + l3)) (S cM_arrived l0 (ix (4 : Int32)))) cM_hisOrder l0 (ix (((544 : Int32) * l1) + l3)) (S cM_arrived l0 (ix (5 : Int32))))) rfl ?_
    obtain ⟨hg, hx⟩ := ifg hx
    refine ev_iald rfl rfl rfl hg ?_
    refine ev_steps 0 (c' := (148, [some (vR 1 l0), some (vI l1), some (vI l2), some (vI l3), some (vI s0), some (vI (((544 : Int32) * l1) + l3)), _, _], [vI (S cM_arrived l0 (ix (6 : Int32))), vI (((544 : Int32) * l1) + l3), vR 117 l0])) (h' := (T, up3 (up3 (up3 (up3 (up3 S cM_had l0 (ix (((544 : Int32) * l1) + l3)) (1 : Int32)) cM_held l0 (ix (((544 : Int32) * l1) + l3)) (1 : Int32)) cM_hisValue l0 (ix (((544 : Int32) * l1) + l3)) (S cM_arrived l0 (ix (3 : Int32)))) cM_hisStream l0 (ix (((544 : Int32) * l1) + l3)) (S cM_arrived l0 (ix (4 : Int32)))) cM_hisOrder l0 (ix (((544 : Int32) * l1) + l3)) (S cM_arrived l0 (ix (5 : Int32))))) rfl ?_
    obtain ⟨hg, hx⟩ := ifg hx
    refine ev_iast rfl rfl hg ?_
    refine ev_steps 4 (c' := (155, [some (vR 1 l0), some (vI l1), some (vI l2), some (vI l3), some (vI s0), some (vI (((544 : Int32) * l1) + l3)), _, _], [vI l1, vR 119 l0, vI l1, vR 119 l0])) (h' := (T, up3 (up3 (up3 (up3 (up3 (up3 S cM_had l0 (ix (((544 : Int32) * l1) + l3)) (1 : Int32)) cM_held l0 (ix (((544 : Int32) * l1) + l3)) (1 : Int32)) cM_hisValue l0 (ix (((544 : Int32) * l1) + l3)) (S cM_arrived l0 (ix (3 : Int32)))) cM_hisStream l0 (ix (((544 : Int32) * l1) + l3)) (S cM_arrived l0 (ix (4 : Int32)))) cM_hisOrder l0 (ix (((544 : Int32) * l1) + l3)) (S cM_arrived l0 (ix (5 : Int32)))) cM_hisFlags l0 (ix (((544 : Int32) * l1) + l3)) (S cM_arrived l0 (ix (6 : Int32))))) rfl ?_
    obtain ⟨hg, hx⟩ := ifg hx
    refine ev_iald rfl rfl rfl hg ?_
    refine ev_steps 2 (c' := (158, [some (vR 1 l0), some (vI l1), some (vI l2), some (vI l3), some (vI s0), some (vI (((544 : Int32) * l1) + l3)), _, _], [vI ((S cM_kept l0 (ix l1)) + (1 : Int32)), vI l1, vR 119 l0])) (h' := (T, up3 (up3 (up3 (up3 (up3 (up3 S cM_had l0 (ix (((544 : Int32) * l1) + l3)) (1 : Int32)) cM_held l0 (ix (((544 : Int32) * l1) + l3)) (1 : Int32)) cM_hisValue l0 (ix (((544 : Int32) * l1) + l3)) (S cM_arrived l0 (ix (3 : Int32)))) cM_hisStream l0 (ix (((544 : Int32) * l1) + l3)) (S cM_arrived l0 (ix (4 : Int32)))) cM_hisOrder l0 (ix (((544 : Int32) * l1) + l3)) (S cM_arrived l0 (ix (5 : Int32)))) cM_hisFlags l0 (ix (((544 : Int32) * l1) + l3)) (S cM_arrived l0 (ix (6 : Int32))))) rfl ?_
    obtain ⟨hg, hx⟩ := ifg hx
    refine ev_iast rfl rfl hg ?_
    refine ev_steps 0 (c' := (159, [some (vR 1 l0), some (vI l1), some (vI l2), some (vI l3), some (vI s0), some (vI (((544 : Int32) * l1) + l3)), _, _], [])) (h' := (T, up3 (up3 (up3 (up3 (up3 (up3 (up3 S cM_had l0 (ix (((544 : Int32) * l1) + l3)) (1 : Int32)) cM_held l0 (ix (((544 : Int32) * l1) + l3)) (1 : Int32)) cM_hisValue l0 (ix (((544 : Int32) * l1) + l3)) (S cM_arrived l0 (ix (3 : Int32)))) cM_hisStream l0 (ix (((544 : Int32) * l1) + l3)) (S cM_arrived l0 (ix (4 : Int32)))) cM_hisOrder l0 (ix (((544 : Int32) * l1) + l3)) (S cM_arrived l0 (ix (5 : Int32)))) cM_hisFlags l0 (ix (((544 : Int32) * l1) + l3)) (S cM_arrived l0 (ix (6 : Int32)))) cM_kept l0 (ix l1) ((S cM_kept l0 (ix l1)) + (1 : Int32)))) rfl ?_
    exact t_M_data_159 scr l0 l1 l2 (up3 (up3 (up3 (up3 (up3 (up3 (up3 S cM_had l0 (ix (((544 : Int32) * l1) + l3)) (1 : Int32)) cM_held l0 (ix (((544 : Int32) * l1) + l3)) (1 : Int32)) cM_hisValue l0 (ix (((544 : Int32) * l1) + l3)) (S cM_arrived l0 (ix (3 : Int32)))) cM_hisStream l0 (ix (((544 : Int32) * l1) + l3)) (S cM_arrived l0 (ix (4 : Int32)))) cM_hisOrder l0 (ix (((544 : Int32) * l1) + l3)) (S cM_arrived l0 (ix (5 : Int32)))) cM_hisFlags l0 (ix (((544 : Int32) * l1) + l3)) (S cM_arrived l0 (ix (6 : Int32)))) cM_kept l0 (ix l1) ((S cM_kept l0 (ix l1)) + (1 : Int32))) T _ _ _ _ _ hx hG
  · rw [if_neg hc] at hx
    exact t_M_data_216 scr l0 l1 l2 S T _ _ _ _ _ hx hG
def f_M_data_59 (l0 : Nat) (l1 : Int32) (l2 : Int32) (l3 : Int32) (S : St) : Option (St) :=
  f_M_data_64 l0 l1 l2 l3 (1 : Int32) S
set_option maxRecDepth 100000 in
theorem t_M_data_59 (scr : Nat × (Nat → Int32)) (l0 : Nat) (l1 : Int32) (l2 : Int32) (l3 : Int32) (S : St) (T : St) (d4 d5 d6 d7 : Option iV) {x : St} {o : Option iV × SS} (hx : f_M_data_59 l0 l1 l2 l3 S = some x) (hG : (fun x => (none, (T, x)) = o) x) : EB scr 2 1 0 cd_M_data (59, [some (vR 1 l0), some (vI l1), some (vI l2), some (vI l3), d4, d5, d6, d7], []) (T, S) o := by
  unfold f_M_data_59 at hx
  try dsimp only at hG
  refine ev_steps 2 (c' := (64, [some (vR 1 l0), some (vI l1), some (vI l2), some (vI l3), _, _, _, _], [vI (1 : Int32)])) (h' := (T, S)) rfl ?_
  exact t_M_data_64 scr l0 l1 l2 l3 (1 : Int32) S T _ _ _ _ hx hG
def f_M_data_63 (l0 : Nat) (l1 : Int32) (l2 : Int32) (l3 : Int32) (S : St) : Option (St) :=
  f_M_data_64 l0 l1 l2 l3 (0 : Int32) S
set_option maxRecDepth 100000 in
theorem t_M_data_63 (scr : Nat × (Nat → Int32)) (l0 : Nat) (l1 : Int32) (l2 : Int32) (l3 : Int32) (S : St) (T : St) (d4 d5 d6 d7 : Option iV) {x : St} {o : Option iV × SS} (hx : f_M_data_63 l0 l1 l2 l3 S = some x) (hG : (fun x => (none, (T, x)) = o) x) : EB scr 2 1 0 cd_M_data (63, [some (vR 1 l0), some (vI l1), some (vI l2), some (vI l3), d4, d5, d6, d7], []) (T, S) o := by
  unfold f_M_data_63 at hx
  try dsimp only at hG
  refine ev_steps 1 (c' := (64, [some (vR 1 l0), some (vI l1), some (vI l2), some (vI l3), _, _, _, _], [vI (0 : Int32)])) (h' := (T, S)) rfl ?_
  exact t_M_data_64 scr l0 l1 l2 l3 (0 : Int32) S T _ _ _ _ hx hG
def f_M_data (u : Nat) (a1 : Int32) (a2 : Int32) (S : St) : Option (St) :=
  if inb (2 : Int32) 8 = true then if (S cM_arrived u (ix (2 : Int32))) < (1 : Int32) then f_M_data_59 u a1 a2 (S cM_arrived u (ix (2 : Int32))) S else (bd (f_M_has u a1 (S cM_arrived u (ix (2 : Int32))) S) (fun r259 => if r259 = 0 then (if inb a1 2 = true then if ((S cM_latest u (ix a1)) + (16 : Int32)) < (S cM_arrived u (ix (2 : Int32))) then f_M_data_59 u a1 a2 (S cM_arrived u (ix (2 : Int32))) S else (if inb a1 2 = true then if (S cM_kept u (ix a1)) < (S cM_room u 0) then f_M_data_63 u a1 a2 (S cM_arrived u (ix (2 : Int32))) S else (if inb a1 2 = true then if (S cM_arrived u (ix (2 : Int32))) = ((S cM_latest u (ix a1)) + (1 : Int32)) then f_M_data_63 u a1 a2 (S cM_arrived u (ix (2 : Int32))) S else f_M_data_59 u a1 a2 (S cM_arrived u (ix (2 : Int32))) S else none) else none) else none) else f_M_data_59 u a1 a2 (S cM_arrived u (ix (2 : Int32))) S)) else none
set_option maxRecDepth 100000 in
theorem t_M_data (scr : Nat × (Nat → Int32)) (u : Nat) (a1 : Int32) (a2 : Int32) (S T : St) {x : St} {o : Option iV × SS} (hx : f_M_data u a1 a2 S = some x) (hG : (none, (T, x)) = o) : E0 scr 3 59 [vR 1 u, vI a1, vI a2] (T, S) o := by
  refine ev_meth (ls := [some (vR 1 u), some (vI a1), some (vI a2), none, none, none, none, none]) rfl rfl rfl ?_
  unfold f_M_data at hx
  refine ev_steps 3 (c' := (5, [some (vR 1 u), some (vI a1), some (vI a2), none, none, none, none, none], [vI (2 : Int32), vR 78 u])) (h' := (T, S)) rfl ?_
  obtain ⟨hg, hx⟩ := ifg hx
  refine ev_iald rfl rfl rfl hg ?_
  refine ev_steps 3 (c' := (9, [some (vR 1 u), some (vI a1), some (vI a2), some (vI (S cM_arrived u (ix (2 : Int32)))), none, none, none, none], [vI (1 : Int32), vI (S cM_arrived u (ix (2 : Int32)))])) (h' := (T, S)) rfl ?_
  refine ev_icmp_lt rfl (fun hc => ?_) (fun hc => ?_)
  · rw [if_pos hc] at hx
    exact t_M_data_59 scr u a1 a2 (S cM_arrived u (ix (2 : Int32))) S T _ _ _ _ hx hG
  · rw [if_neg hc] at hx
    refine ev_steps 3 (c' := (15, [some (vR 1 u), some (vI a1), some (vI a2), some (vI (S cM_arrived u (ix (2 : Int32)))), none, none, none, none], [vI (S cM_arrived u (ix (2 : Int32))), vI a1, vR 1 u])) (h' := (T, S)) rfl ?_
    obtain ⟨r259, hc, hx⟩ := bd_some hx
    refine ev_call rfl rfl rfl rfl rfl rfl rfl rfl rfl ((t_M_has scr u a1 (S cM_arrived u (ix (2 : Int32))) S T hc rfl).mono (by decide)) ?_
    refine ev_steps 0 (c' := (18, [some (vR 1 u), some (vI a1), some (vI a2), some (vI (S cM_arrived u (ix (2 : Int32)))), none, none, none, none], [vI r259])) (h' := (T, S)) rfl ?_
    refine ev_if_ne rfl (fun hc => ?_) (fun hc => ?_)
    · rw [if_pos hc] at hx
      refine ev_steps 4 (c' := (27, [some (vR 1 u), some (vI a1), some (vI a2), some (vI (S cM_arrived u (ix (2 : Int32)))), none, none, none, none], [vI a1, vR 111 u, vI (S cM_arrived u (ix (2 : Int32)))])) (h' := (T, S)) rfl ?_
      obtain ⟨hg, hx⟩ := ifg hx
      refine ev_iald rfl rfl rfl hg ?_
      refine ev_steps 2 (c' := (31, [some (vR 1 u), some (vI a1), some (vI a2), some (vI (S cM_arrived u (ix (2 : Int32)))), none, none, none, none], [vI ((S cM_latest u (ix a1)) + (16 : Int32)), vI (S cM_arrived u (ix (2 : Int32)))])) (h' := (T, S)) rfl ?_
      refine ev_icmp_gt rfl (fun hc => ?_) (fun hc => ?_)
      · rw [if_pos hc] at hx
        exact t_M_data_59 scr u a1 a2 (S cM_arrived u (ix (2 : Int32))) S T _ _ _ _ hx hG
      · rw [if_neg hc] at hx
        refine ev_steps 3 (c' := (39, [some (vR 1 u), some (vI a1), some (vI a2), some (vI (S cM_arrived u (ix (2 : Int32)))), none, none, none, none], [vI a1, vR 119 u])) (h' := (T, S)) rfl ?_
        obtain ⟨hg, hx⟩ := ifg hx
        refine ev_iald rfl rfl rfl hg ?_
        refine ev_steps 2 (c' := (44, [some (vR 1 u), some (vI a1), some (vI a2), some (vI (S cM_arrived u (ix (2 : Int32)))), none, none, none, none], [vI (S cM_room u 0), vI (S cM_kept u (ix a1))])) (h' := (T, S)) rfl ?_
        refine ev_icmp_lt rfl (fun hc => ?_) (fun hc => ?_)
        · rw [if_pos hc] at hx
          exact t_M_data_63 scr u a1 a2 (S cM_arrived u (ix (2 : Int32))) S T _ _ _ _ hx hG
        · rw [if_neg hc] at hx
          refine ev_steps 4 (c' := (53, [some (vR 1 u), some (vI a1), some (vI a2), some (vI (S cM_arrived u (ix (2 : Int32)))), none, none, none, none], [vI a1, vR 111 u, vI (S cM_arrived u (ix (2 : Int32)))])) (h' := (T, S)) rfl ?_
          obtain ⟨hg, hx⟩ := ifg hx
          refine ev_iald rfl rfl rfl hg ?_
          refine ev_steps 2 (c' := (56, [some (vR 1 u), some (vI a1), some (vI a2), some (vI (S cM_arrived u (ix (2 : Int32)))), none, none, none, none], [vI ((S cM_latest u (ix a1)) + (1 : Int32)), vI (S cM_arrived u (ix (2 : Int32)))])) (h' := (T, S)) rfl ?_
          refine ev_icmp_eq rfl (fun hc => ?_) (fun hc => ?_)
          · rw [if_pos hc] at hx
            exact t_M_data_63 scr u a1 a2 (S cM_arrived u (ix (2 : Int32))) S T _ _ _ _ hx hG
          · rw [if_neg hc] at hx
            exact t_M_data_59 scr u a1 a2 (S cM_arrived u (ix (2 : Int32))) S T _ _ _ _ hx hG
    · rw [if_neg hc] at hx
      exact t_M_data_59 scr u a1 a2 (S cM_arrived u (ix (2 : Int32))) S T _ _ _ _ hx hG
