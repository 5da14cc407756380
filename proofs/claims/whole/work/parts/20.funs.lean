/-! Methods as functions on the store, printed by a program. -/
-- M_strike
def f_M_strike_177 (l0 : Nat) (l1 : Int32) (l4 : Int32) (l5 : Int32) (S : St) : Option ((Int32 × St) ⊕ (St)) :=
  some (Sum.inl (l5 + (1 : Int32), S))
set_option maxRecDepth 100000 in
theorem t_M_strike_177 (scr : Nat × (Nat → Int32)) (l0 : Nat) (l1 : Int32) (l4 : Int32) (l5 : Int32) (S : St) (T : St) (d2 d3 d6 d7 : Option iV) {x : (Int32 × St) ⊕ (St)} {o : Option iV × SS} (hx : f_M_strike_177 l0 l1 l4 l5 S = some x) (hG : (Sum.elim (fun q => ∀ d2 d3 d6 d7 : Option iV, EB scr 0 1 0 cd_M_strike (52, [some (vR 1 l0), some (vI l1), d2, d3, some (vI l4), some (vI q.1), d6, d7], []) (T, q.2) o) (fun x => (none, (T, x)) = o)) x) : EB scr 0 1 0 cd_M_strike (177, [some (vR 1 l0), some (vI l1), d2, d3, some (vI l4), some (vI l5), d6, d7], []) (T, S) o := by
  unfold f_M_strike_177 at hx
  try dsimp only at hG
  refine ev_steps 2 (c' := (52, [some (vR 1 l0), some (vI l1), _, _, some (vI l4), some (vI (l5 + (1 : Int32))), _, _], [])) (h' := (T, S)) rfl ?_
  cases hx
  exact hG _ _ _ _
def f_M_strike_176 (l0 : Nat) (l1 : Int32) (l4 : Int32) (l5 : Int32) (s0 : Nat) (s1 : Int32) (s2 : Int32) (S : St) : Option ((Int32 × St) ⊕ (St)) :=
  if inb s1 4 = true then f_M_strike_177 l0 l1 l4 l5 (up3 S cM_rate s0 (ix s1) s2) else none
set_option maxRecDepth 100000 in
theorem t_M_strike_176 (scr : Nat × (Nat → Int32)) (l0 : Nat) (l1 : Int32) (l4 : Int32) (l5 : Int32) (s0 : Nat) (s1 : Int32) (s2 : Int32) (S : St) (T : St) (d2 d3 d6 d7 : Option iV) {x : (Int32 × St) ⊕ (St)} {o : Option iV × SS} (hx : f_M_strike_176 l0 l1 l4 l5 s0 s1 s2 S = some x) (hG : (Sum.elim (fun q => ∀ d2 d3 d6 d7 : Option iV, EB scr 0 1 0 cd_M_strike (52, [some (vR 1 l0), some (vI l1), d2, d3, some (vI l4), some (vI q.1), d6, d7], []) (T, q.2) o) (fun x => (none, (T, x)) = o)) x) : EB scr 0 1 0 cd_M_strike (176, [some (vR 1 l0), some (vI l1), d2, d3, some (vI l4), some (vI l5), d6, d7], [vI s2, vI s1, vR 92 s0]) (T, S) o := by
  unfold f_M_strike_176 at hx
  try dsimp only at hG
  obtain ⟨hg, hx⟩ := ifg hx
  refine ev_iast rfl rfl hg ?_
  refine ev_steps 0 (c' := (177, [some (vR 1 l0), some (vI l1), _, _, some (vI l4), some (vI l5), _, _], [])) (h' := (T, up3 S cM_rate s0 (ix s1) s2)) rfl ?_
  exact t_M_strike_177 scr l0 l1 l4 l5 (up3 S cM_rate s0 (ix s1) s2) T _ _ _ _ hx hG
def f_M_strike_52_b (l0 : Nat) (l1 : Int32) (l4 : Int32)  : (Int32 × St) → Option ((Int32 × St) ⊕ (St))
  | (l5, S) => if inb l1 2 = true then if (S cM_given l0 (ix l1)) < l5 then exW (some S) else (if l5 < l4 then (if inb (((32 : Int32) * l1) + (iRem l5 (32 : Int32))) 64 = true then if (S cM_word l0 (ix (((32 : Int32) * l1) + (iRem l5 (32 : Int32))))) = (2 : Int32) then (if inb (((32 : Int32) * l1) + (iRem l5 (32 : Int32))) 64 = true then if inb (((32 : Int32) * l1) + (iRem l5 (32 : Int32))) 64 = true then if inb (((32 : Int32) * l1) + (iRem l5 (32 : Int32))) 64 = true then if ((up3 S cM_strikes l0 (ix (((32 : Int32) * l1) + (iRem l5 (32 : Int32)))) ((S cM_strikes l0 (ix (((32 : Int32) * l1) + (iRem l5 (32 : Int32))))) + (1 : Int32))) cM_strikes l0 (ix (((32 : Int32) * l1) + (iRem l5 (32 : Int32))))) = (3 : Int32) then (if inb (((32 : Int32) * l1) + (iRem l5 (32 : Int32))) 64 = true then if inb (((32 : Int32) * l1) + (iRem l5 (32 : Int32))) 64 = true then if inb (((32 : Int32) * l1) + (iRem l5 (32 : Int32))) 64 = true then if inb (((2 : Int32) * l1) + (S cM_sentOn l0 (ix (((32 : Int32) * l1) + (iRem l5 (32 : Int32)))))) 4 = true then if ((S cM_rate l0 (ix (((2 : Int32) * l1) + (S cM_sentOn l0 (ix (((32 : Int32) * l1) + (iRem l5 (32 : Int32)))))))) / (2 : Int32)) < (1 : Int32) then f_M_strike_176 l0 l1 l4 l5 l0 (((2 : Int32) * l1) + (S cM_sentOn l0 (ix (((32 : Int32) * l1) + (iRem l5 (32 : Int32)))))) (1 : Int32) (up3 (up3 (up3 S cM_strikes l0 (ix (((32 : Int32) * l1) + (iRem l5 (32 : Int32)))) ((S cM_strikes l0 (ix (((32 : Int32) * l1) + (iRem l5 (32 : Int32))))) + (1 : Int32))) cM_word l0 (ix (((32 : Int32) * l1) + (iRem l5 (32 : Int32)))) (3 : Int32)) cM_strikes l0 (ix (((32 : Int32) * l1) + (iRem l5 (32 : Int32)))) (0 : Int32)) else (if inb (((2 : Int32) * l1) + (S cM_sentOn l0 (ix (((32 : Int32) * l1) + (iRem l5 (32 : Int32)))))) 4 = true then f_M_strike_176 l0 l1 l4 l5 l0 (((2 : Int32) * l1) + (S cM_sentOn l0 (ix (((32 : Int32) * l1) + (iRem l5 (32 : Int32)))))) ((S cM_rate l0 (ix (((2 : Int32) * l1) + (S cM_sentOn l0 (ix (((32 : Int32) * l1) + (iRem l5 (32 : Int32)))))))) / (2 : Int32)) (up3 (up3 (up3 S cM_strikes l0 (ix (((32 : Int32) * l1) + (iRem l5 (32 : Int32)))) ((S cM_strikes l0 (ix (((32 : Int32) * l1) + (iRem l5 (32 : Int32))))) + (1 : Int32))) cM_word l0 (ix (((32 : Int32) * l1) + (iRem l5 (32 : Int32)))) (3 : Int32)) cM_strikes l0 (ix (((32 : Int32) * l1) + (iRem l5 (32 : Int32)))) (0 : Int32)) else none) else none else none else none else none) else f_M_strike_177 l0 l1 l4 l5 (up3 S cM_strikes l0 (ix (((32 : Int32) * l1) + (iRem l5 (32 : Int32)))) ((S cM_strikes l0 (ix (((32 : Int32) * l1) + (iRem l5 (32 : Int32))))) + (1 : Int32))) else none else none else none) else f_M_strike_177 l0 l1 l4 l5 S else none) else exW (some S)) else none
def f_M_strike_52 (l0 : Nat) (l1 : Int32) (l4 : Int32)  (q : Int32 × St) : Option (St) := iter (f_M_strike_52_b l0 l1 l4) 4096 q
set_option maxRecDepth 100000 in
theorem t_M_strike_52_b (scr : Nat × (Nat → Int32)) (l0 : Nat) (l1 : Int32) (l4 : Int32) (l5 : Int32) (S : St) (T : St) (d2 d3 d6 d7 : Option iV) {x : (Int32 × St) ⊕ (St)} {o : Option iV × SS} (hx : f_M_strike_52_b l0 l1 l4 (l5, S) = some x) (hG : (Sum.elim (fun q => ∀ d2 d3 d6 d7 : Option iV, EB scr 0 1 0 cd_M_strike (52, [some (vR 1 l0), some (vI l1), d2, d3, some (vI l4), some (vI q.1), d6, d7], []) (T, q.2) o) (fun x => (none, (T, x)) = o)) x) : EB scr 0 1 0 cd_M_strike (52, [some (vR 1 l0), some (vI l1), d2, d3, some (vI l4), some (vI l5), d6, d7], []) (T, S) o := by
  unfold f_M_strike_52_b at hx
  dsimp only at hx
  refine ev_steps 4 (c' := (59, [some (vR 1 l0), some (vI l1), _, _, some (vI l4), some (vI l5), _, _], [vI l1, vR 101 l0, vI l5])) (h' := (T, S)) rfl ?_
  obtain ⟨hg, hx⟩ := ifg hx
  refine ev_iald rfl rfl rfl hg ?_
  refine ev_steps 0 (c' := (60, [some (vR 1 l0), some (vI l1), _, _, some (vI l4), some (vI l5), _, _], [vI (S cM_given l0 (ix l1)), vI l5])) (h' := (T, S)) rfl ?_
  refine ev_icmp_gt rfl (fun hc => ?_) (fun hc => ?_)
  · rw [if_pos hc] at hx
    obtain ⟨x, hy, rfl⟩ := exW_some hx
    replace hx := hy
    simp only [Sum.elim_inr] at hG
    cases hx
    subst hG
    exact ev_ret rfl rfl
  · rw [if_neg hc] at hx
    refine ev_steps 2 (c' := (67, [some (vR 1 l0), some (vI l1), _, _, some (vI l4), some (vI l5), _, _], [vI l4, vI l5])) (h' := (T, S)) rfl ?_
    refine ev_icmp_ge rfl (fun hc => ?_) (fun hc => ?_)
    · rw [if_pos hc] at hx
      refine ev_steps 11 (c' := (88, [some (vR 1 l0), some (vI l1), _, _, some (vI l4), some (vI l5), some (vI (((32 : Int32) * l1) + (iRem l5 (32 : Int32)))), _], [vI (((32 : Int32) * l1) + (iRem l5 (32 : Int32))), vR 103 l0])) (h' := (T, S)) rfl ?_
      obtain ⟨hg, hx⟩ := ifg hx
      refine ev_iald rfl rfl rfl hg ?_
      refine ev_steps 1 (c' := (90, [some (vR 1 l0), some (vI l1), _, _, some (vI l4), some (vI l5), some (vI (((32 : Int32) * l1) + (iRem l5 (32 : Int32)))), _], [vI (2 : Int32), vI (S cM_word l0 (ix (((32 : Int32) * l1) + (iRem l5 (32 : Int32)))))])) (h' := (T, S)) rfl ?_
      refine ev_icmp_ne rfl (fun hc => ?_) (fun hc => ?_)
      · rw [if_pos hc] at hx
        refine ev_steps 4 (c' := (100, [some (vR 1 l0), some (vI l1), _, _, some (vI l4), some (vI l5), some (vI (((32 : Int32) * l1) + (iRem l5 (32 : Int32)))), _], [vI (((32 : Int32) * l1) + (iRem l5 (32 : Int32))), vR 109 l0, vI (((32 : Int32) * l1) + (iRem l5 (32 : Int32))), vR 109 l0])) (h' := (T, S)) rfl ?_
        obtain ⟨hg, hx⟩ := ifg hx
        refine ev_iald rfl rfl rfl hg ?_
        refine ev_steps 2 (c' := (103, [some (vR 1 l0), some (vI l1), _, _, some (vI l4), some (vI l5), some (vI (((32 : Int32) * l1) + (iRem l5 (32 : Int32)))), _], [vI ((S cM_strikes l0 (ix (((32 : Int32) * l1) + (iRem l5 (32 : Int32))))) + (1 : Int32)), vI (((32 : Int32) * l1) + (iRem l5 (32 : Int32))), vR 109 l0])) (h' := (T, S)) rfl ?_
        obtain ⟨hg, hx⟩ := ifg hx
        refine ev_iast rfl rfl hg ?_
        refine ev_steps 3 (c' := (110, [some (vR 1 l0), some (vI l1), _, _, some (vI l4), some (vI l5), some (vI (((32 : Int32) * l1) + (iRem l5 (32 : Int32)))), _], [vI (((32 : Int32) * l1) + (iRem l5 (32 : Int32))), vR 109 l0])) (h' := (T, up3 S cM_strikes l0 (ix (((32 : Int32) * l1) + (iRem l5 (32 : Int32)))) ((S cM_strikes l0 (ix (((32 : Int32) * l1) + (iRem l5 (32 : Int32))))) + (1 : Int32)))) rfl ?_
        obtain ⟨hg, hx⟩ := ifg hx
        refine ev_iald rfl rfl rfl hg ?_
        refine ev_steps 1 (c' := (112, [some (vR 1 l0), some (vI l1), _, _, some (vI l4), some (vI l5), some (vI (((32 : Int32) * l1) + (iRem l5 (32 : Int32)))), _], [vI (3 : Int32), vI ((up3 S cM_strikes l0 (ix (((32 : Int32) * l1) + (iRem l5 (32 : Int32)))) ((S cM_strikes l0 (ix (((32 : Int32) * l1) + (iRem l5 (32 : Int32))))) + (1 : Int32))) cM_strikes l0 (ix (((32 : Int32) * l1) + (iRem l5 (32 : Int32)))))])) (h' := (T, up3 S cM_strikes l0 (ix (((32 : Int32) * l1) + (iRem l5 (32 : Int32)))) ((S cM_strikes l0 (ix (((32 : Int32) * l1) + (iRem l5 (32 : Int32))))) + (1 : Int32)))) rfl ?_
        refine ev_icmp_ne rfl (fun hc => ?_) (fun hc => ?_)
        · rw [if_pos hc] at hx
          refine ev_steps 6 (c' := (124, [some (vR 1 l0), some (vI l1), _, _, some (vI l4), some (vI l5), some (vI (((32 : Int32) * l1) + (iRem l5 (32 : Int32)))), _], [vI (((32 : Int32) * l1) + (iRem l5 (32 : Int32))), vR 108 l0, vI ((2 : Int32) * l1)])) (h' := (T, up3 S cM_strikes l0 (ix (((32 : Int32) * l1) + (iRem l5 (32 : Int32)))) ((S cM_strikes l0 (ix (((32 : Int32) * l1) + (iRem l5 (32 : Int32))))) + (1 : Int32)))) rfl ?_
          obtain ⟨hg, hx⟩ := ifg hx
          refine ev_iald rfl rfl rfl hg ?_
          refine ev_steps 6 (c' := (135, [some (vR 1 l0), some (vI l1), _, _, some (vI l4), some (vI l5), some (vI (((32 : Int32) * l1) + (iRem l5 (32 : Int32)))), some (vI (((2 : Int32) * l1) + (S cM_sentOn l0 (ix (((32 : Int32) * l1) + (iRem l5 (32 : Int32)))))))], [vI (3 : Int32), vI (((32 : Int32) * l1) + (iRem l5 (32 : Int32))), vR 103 l0])) (h' := (T, up3 S cM_strikes l0 (ix (((32 : Int32) * l1) + (iRem l5 (32 : Int32)))) ((S cM_strikes l0 (ix (((32 : Int32) * l1) + (iRem l5 (32 : Int32))))) + (1 : Int32)))) rfl ?_
          obtain ⟨hg, hx⟩ := ifg hx
          refine ev_iast rfl rfl hg ?_
          refine ev_steps 4 (c' := (143, [some (vR 1 l0), some (vI l1), _, _, some (vI l4), some (vI l5), some (vI (((32 : Int32) * l1) + (iRem l5 (32 : Int32)))), some (vI (((2 : Int32) * l1) + (S cM_sentOn l0 (ix (((32 : Int32) * l1) + (iRem l5 (32 : Int32)))))))], [vI (0 : Int32), vI (((32 : Int32) * l1) + (iRem l5 (32 : Int32))), vR 109 l0])) (h' := (T, up3 (up3 S cM_strikes l0 (ix (((32 : Int32) * l1) + (iRem l5 (32 : Int32)))) ((S cM_strikes l0 (ix (((32 : Int32) * l1) + (iRem l5 (32 : Int32))))) + (1 : Int32))) cM_word l0 (ix (((32 : Int32) * l1) + (iRem l5 (32 : Int32)))) (3 : Int32))) rfl ?_
          obtain ⟨hg, hx⟩ := ifg hx
          refine ev_iast rfl rfl hg ?_
          refine ev_steps 6 (c' := (156, [some (vR 1 l0), some (vI l1), _, _, some (vI l4), some (vI l5), some (vI (((32 : Int32) * l1) + (iRem l5 (32 : Int32)))), some (vI (((2 : Int32) * l1) + (S cM_sentOn l0 (ix (((32 : Int32) * l1) + (iRem l5 (32 : Int32)))))))], [vI (((2 : Int32) * l1) + (S cM_sentOn l0 (ix (((32 : Int32) * l1) + (iRem l5 (32 : Int32)))))), vR 92 l0, vI (((2 : Int32) * l1) + (S cM_sentOn l0 (ix (((32 : Int32) * l1) + (iRem l5 (32 : Int32)))))), vR 92 l0])) (h' := (T, up3 (up3 (up3 S cM_strikes l0 (ix (((32 : Int32) * l1) + (iRem l5 (32 : Int32)))) ((S cM_strikes l0 (ix (((32 : Int32) * l1) + (iRem l5 (32 : Int32))))) + (1 : Int32))) cM_word l0 (ix (((32 : Int32) * l1) + (iRem l5 (32 : Int32)))) (3 : Int32)) cM_strikes l0 (ix (((32 : Int32) * l1) + (iRem l5 (32 : Int32)))) (0 : Int32))) rfl ?_
          obtain ⟨hg, hx⟩ := ifg hx
          refine ev_iald rfl rfl rfl hg ?_
          refine ev_steps 3 (c' := (160, [some (vR 1 l0), some (vI l1), _, _, some (vI l4), some (vI l5), some (vI (((32 : Int32) * l1) + (iRem l5 (32 : Int32)))), some (vI (((2 : Int32) * l1) + (S cM_sentOn l0 (ix (((32 : Int32) * l1) + (iRem l5 (32 : Int32)))))))], [vI (1 : Int32), vI ((S cM_rate l0 (ix (((2 : Int32) * l1) + (S cM_sentOn l0 (ix (((32 : Int32) * l1) + (iRem l5 (32 : Int32)))))))) / (2 : Int32)), vI (((2 : Int32) * l1) + (S cM_sentOn l0 (ix (((32 : Int32) * l1) + (iRem l5 (32 : Int32)))))), vR 92 l0])) (h' := (T, up3 (up3 (up3 S cM_strikes l0 (ix (((32 : Int32) * l1) + (iRem l5 (32 : Int32)))) ((S cM_strikes l0 (ix (((32 : Int32) * l1) + (iRem l5 (32 : Int32))))) + (1 : Int32))) cM_word l0 (ix (((32 : Int32) * l1) + (iRem l5 (32 : Int32)))) (3 : Int32)) cM_strikes l0 (ix (((32 : Int32) * l1) + (iRem l5 (32 : Int32)))) (0 : Int32))) rfl ?_
          refine ev_icmp_ge rfl (fun hc => ?_) (fun hc => ?_)
          · rw [if_pos hc] at hx
            refine ev_steps 2 (c' := (176, [some (vR 1 l0), some (vI l1), _, _, some (vI l4), some (vI l5), some (vI (((32 : Int32) * l1) + (iRem l5 (32 : Int32)))), some (vI (((2 : Int32) * l1) + (S cM_sentOn l0 (ix (((32 : Int32) * l1) + (iRem l5 (32 : Int32)))))))], [vI (1 : Int32), vI (((2 : Int32) * l1) + (S cM_sentOn l0 (ix (((32 : Int32) * l1) + (iRem l5 (32 : Int32)))))), vR 92 l0])) (h' := (T, up3 (up3 (up3 S cM_strikes l0 (ix (((32 : Int32) * l1) + (iRem l5 (32 : Int32)))) ((S cM_strikes l0 (ix (((32 : Int32) * l1) + (iRem l5 (32 : Int32))))) + (1 : Int32))) cM_word l0 (ix (((32 : Int32) * l1) + (iRem l5 (32 : Int32)))) (3 : Int32)) cM_strikes l0 (ix (((32 : Int32) * l1) + (iRem l5 (32 : Int32)))) (0 : Int32))) rfl ?_
            exact t_M_strike_176 scr l0 l1 l4 l5 l0 (((2 : Int32) * l1) + (S cM_sentOn l0 (ix (((32 : Int32) * l1) + (iRem l5 (32 : Int32)))))) (1 : Int32) (up3 (up3 (up3 S cM_strikes l0 (ix (((32 : Int32) * l1) + (iRem l5 (32 : Int32)))) ((S cM_strikes l0 (ix (((32 : Int32) * l1) + (iRem l5 (32 : Int32))))) + (1 : Int32))) cM_word l0 (ix (((32 : Int32) * l1) + (iRem l5 (32 : Int32)))) (3 : Int32)) cM_strikes l0 (ix (((32 : Int32) * l1) + (iRem l5 (32 : Int32)))) (0 : Int32)) T _ _ _ _ hx hG
          · rw [if_neg hc] at hx
            refine ev_steps 3 (c' := (173, [some (vR 1 l0), some (vI l1), _, _, some (vI l4), some (vI l5), some (vI (((32 : Int32) * l1) + (iRem l5 (32 : Int32)))), some (vI (((2 : Int32) * l1) + (S cM_sentOn l0 (ix (((32 : Int32) * l1) + (iRem l5 (32 : Int32)))))))], [vI (((2 : Int32) * l1) + (S cM_sentOn l0 (ix (((32 : Int32) * l1) + (iRem l5 (32 : Int32)))))), vR 92 l0, vI (((2 : Int32) * l1) + (S cM_sentOn l0 (ix (((32 : Int32) * l1) + (iRem l5 (32 : Int32)))))), vR 92 l0])) (h' := (T, up3 (up3 (up3 S cM_strikes l0 (ix (((32 : Int32) * l1) + (iRem l5 (32 : Int32)))) ((S cM_strikes l0 (ix (((32 : Int32) * l1) + (iRem l5 (32 : Int32))))) + (1 : Int32))) cM_word l0 (ix (((32 : Int32) * l1) + (iRem l5 (32 : Int32)))) (3 : Int32)) cM_strikes l0 (ix (((32 : Int32) * l1) + (iRem l5 (32 : Int32)))) (0 : Int32))) rfl ?_
            obtain ⟨hg, hx⟩ := ifg hx
            refine ev_iald rfl rfl rfl hg ?_
            refine ev_steps 2 (c' := (176, [some (vR 1 l0), some (vI l1), _, _, some (vI l4), some (vI l5), some (vI (((32 : Int32) * l1) + (iRem l5 (32 : Int32)))), some (vI (((2 : Int32) * l1) + (S cM_sentOn l0 (ix (((32 : Int32) * l1) + (iRem l5 (32 : Int32)))))))], [vI ((S cM_rate l0 (ix (((2 : Int32) * l1) + (S cM_sentOn l0 (ix (((32 : Int32) * l1) + (iRem l5 (32 : Int32)))))))) / (2 : Int32)), vI (((2 : Int32) * l1) + (S cM_sentOn l0 (ix (((32 : Int32) * l1) + (iRem l5 (32 : Int32)))))), vR 92 l0])) (h' := (T, up3 (up3 (up3 S cM_strikes l0 (ix (((32 : Int32) * l1) + (iRem l5 (32 : Int32)))) ((S cM_strikes l0 (ix (((32 : Int32) * l1) + (iRem l5 (32 : Int32))))) + (1 : Int32))) cM_word l0 (ix (((32 : Int32) * l1) + (iRem l5 (32 : Int32)))) (3 : Int32)) cM_strikes l0 (ix (((32 : Int32) * l1) + (iRem l5 (32 : Int32)))) (0 : Int32))) rfl ?_
            exact t_M_strike_176 scr l0 l1 l4 l5 l0 (((2 : Int32) * l1) + (S cM_sentOn l0 (ix (((32 : Int32) * l1) + (iRem l5 (32 : Int32)))))) ((S cM_rate l0 (ix (((2 : Int32) * l1) + (S cM_sentOn l0 (ix (((32 : Int32) * l1) + (iRem l5 (32 : Int32)))))))) / (2 : Int32)) (up3 (up3 (up3 S cM_strikes l0 (ix (((32 : Int32) * l1) + (iRem l5 (32 : Int32)))) ((S cM_strikes l0 (ix (((32 : Int32) * l1) + (iRem l5 (32 : Int32))))) + (1 : Int32))) cM_word l0 (ix (((32 : Int32) * l1) + (iRem l5 (32 : Int32)))) (3 : Int32)) cM_strikes l0 (ix (((32 : Int32) * l1) + (iRem l5 (32 : Int32)))) (0 : Int32)) T _ _ _ _ hx hG
        · rw [if_neg hc] at hx
          exact t_M_strike_177 scr l0 l1 l4 l5 (up3 S cM_strikes l0 (ix (((32 : Int32) * l1) + (iRem l5 (32 : Int32)))) ((S cM_strikes l0 (ix (((32 : Int32) * l1) + (iRem l5 (32 : Int32))))) + (1 : Int32))) T _ _ _ _ hx hG
      · rw [if_neg hc] at hx
        exact t_M_strike_177 scr l0 l1 l4 l5 S T _ _ _ _ hx hG
    · rw [if_neg hc] at hx
      obtain ⟨x, hy, rfl⟩ := exW_some hx
      replace hx := hy
      simp only [Sum.elim_inr] at hG
      cases hx
      subst hG
      exact ev_ret rfl rfl
set_option maxRecDepth 100000 in
theorem t_M_strike_52 (scr : Nat × (Nat → Int32)) (l0 : Nat) (l1 : Int32) (l4 : Int32) (l5 : Int32) (S : St) (T : St) (d2 d3 d6 d7 : Option iV) {x : St} {o : Option iV × SS} (hx : f_M_strike_52 l0 l1 l4 (l5, S) = some x) (hG : (fun x => (none, (T, x)) = o) x) : EB scr 0 1 0 cd_M_strike (52, [some (vR 1 l0), some (vI l1), d2, d3, some (vI l4), some (vI l5), d6, d7], []) (T, S) o := by
  exact iter_ind (P := fun q => ∀ d2 d3 d6 d7 : Option iV, EB scr 0 1 0 cd_M_strike (52, [some (vR 1 l0), some (vI l1), d2, d3, some (vI l4), some (vI q.1), d6, d7], []) (T, q.2) o) (G := fun x => (none, (T, x)) = o) (fun q x hb hP d2 d3 d6 d7 => t_M_strike_52_b scr l0 l1 l4 q.1 q.2 T d2 d3 d6 d7 hb hP) hx hG d2 d3 d6 d7
def f_M_strike_34 (l0 : Nat) (l1 : Int32) (l2 : Int32) (l3 : Int32) (l5 : Int32) (s0 : Int32) (S : St) : Option ((Int32 × Int32) ⊕ (St)) :=
  some (Sum.inl (s0, l5 + (1 : Int32)))
set_option maxRecDepth 100000 in
theorem t_M_strike_34 (scr : Nat × (Nat → Int32)) (l0 : Nat) (l1 : Int32) (l2 : Int32) (l3 : Int32) (l5 : Int32) (s0 : Int32) (S : St) (T : St) (d4 d6 d7 : Option iV) {x : (Int32 × Int32) ⊕ (St)} {o : Option iV × SS} (hx : f_M_strike_34 l0 l1 l2 l3 l5 s0 S = some x) (hG : (Sum.elim (fun q => ∀ d6 d7 : Option iV, EB scr 0 1 0 cd_M_strike (6, [some (vR 1 l0), some (vI l1), some (vI l2), some (vI l3), some (vI q.1), some (vI q.2), d6, d7], []) (T, S) o) (fun x => (none, (T, x)) = o)) x) : EB scr 0 1 0 cd_M_strike (34, [some (vR 1 l0), some (vI l1), some (vI l2), some (vI l3), d4, some (vI l5), d6, d7], [vI s0]) (T, S) o := by
  unfold f_M_strike_34 at hx
  try dsimp only at hG
  refine ev_steps 3 (c' := (6, [some (vR 1 l0), some (vI l1), some (vI l2), some (vI l3), some (vI s0), some (vI (l5 + (1 : Int32))), _, _], [])) (h' := (T, S)) rfl ?_
  cases hx
  exact hG _ _
def f_M_strike_6_b (l0 : Nat) (l1 : Int32) (l2 : Int32) (l3 : Int32) (S : St) : (Int32 × Int32) → Option ((Int32 × Int32) ⊕ (St))
  | (l4, l5) => if l5 < (16 : Int32) then (if ((iShr l3 l5) &&& (1 : Int32)) = (1 : Int32) then f_M_strike_34 l0 l1 l2 l3 l5 ((l2 + (1 : Int32)) + l5) S else f_M_strike_34 l0 l1 l2 l3 l5 l4 S) else exW (if inb l1 2 = true then f_M_strike_52 l0 l1 l4 ((S cM_gone l0 (ix l1)) + (1 : Int32), S) else none)
def f_M_strike_6 (l0 : Nat) (l1 : Int32) (l2 : Int32) (l3 : Int32) (S : St) (q : Int32 × Int32) : Option (St) := iter (f_M_strike_6_b l0 l1 l2 l3 S) 4096 q
set_option maxRecDepth 100000 in
theorem t_M_strike_6_b (scr : Nat × (Nat → Int32)) (l0 : Nat) (l1 : Int32) (l2 : Int32) (l3 : Int32) (l4 : Int32) (l5 : Int32) (S : St) (T : St) (d6 d7 : Option iV) {x : (Int32 × Int32) ⊕ (St)} {o : Option iV × SS} (hx : f_M_strike_6_b l0 l1 l2 l3 S (l4, l5) = some x) (hG : (Sum.elim (fun q => ∀ d6 d7 : Option iV, EB scr 0 1 0 cd_M_strike (6, [some (vR 1 l0), some (vI l1), some (vI l2), some (vI l3), some (vI q.1), some (vI q.2), d6, d7], []) (T, S) o) (fun x => (none, (T, x)) = o)) x) : EB scr 0 1 0 cd_M_strike (6, [some (vR 1 l0), some (vI l1), some (vI l2), some (vI l3), some (vI l4), some (vI l5), d6, d7], []) (T, S) o := by
  unfold f_M_strike_6_b at hx
  dsimp only at hx
  refine ev_steps 2 (c' := (10, [some (vR 1 l0), some (vI l1), some (vI l2), some (vI l3), some (vI l4), some (vI l5), _, _], [vI (16 : Int32), vI l5])) (h' := (T, S)) rfl ?_
  refine ev_icmp_ge rfl (fun hc => ?_) (fun hc => ?_)
  · rw [if_pos hc] at hx
    refine ev_steps 6 (c' := (20, [some (vR 1 l0), some (vI l1), some (vI l2), some (vI l3), some (vI l4), some (vI l5), _, _], [vI (1 : Int32), vI ((iShr l3 l5) &&& (1 : Int32))])) (h' := (T, S)) rfl ?_
    refine ev_icmp_ne rfl (fun hc => ?_) (fun hc => ?_)
    · rw [if_pos hc] at hx
      refine ev_steps 6 (c' := (34, [some (vR 1 l0), some (vI l1), some (vI l2), some (vI l3), some (vI l4), some (vI l5), _, _], [vI ((l2 + (1 : Int32)) + l5)])) (h' := (T, S)) rfl ?_
      exact t_M_strike_34 scr l0 l1 l2 l3 l5 ((l2 + (1 : Int32)) + l5) S T _ _ _ hx hG
    · rw [if_neg hc] at hx
      refine ev_steps 1 (c' := (34, [some (vR 1 l0), some (vI l1), some (vI l2), some (vI l3), some (vI l4), some (vI l5), _, _], [vI l4])) (h' := (T, S)) rfl ?_
      exact t_M_strike_34 scr l0 l1 l2 l3 l5 l4 S T _ _ _ hx hG
  · rw [if_neg hc] at hx
    obtain ⟨x, hy, rfl⟩ := exW_some hx
    replace hx := hy
    simp only [Sum.elim_inr] at hG
    refine ev_steps 3 (c' := (47, [some (vR 1 l0), some (vI l1), some (vI l2), some (vI l3), some (vI l4), some (vI l5), _, _], [vI l1, vR 100 l0])) (h' := (T, S)) rfl ?_
    obtain ⟨hg, hx⟩ := ifg hx
    refine ev_iald rfl rfl rfl hg ?_
    refine ev_steps 3 (c' := (52, [some (vR 1 l0), some (vI l1), some (vI l2), some (vI l3), some (vI l4), some (vI ((S cM_gone l0 (ix l1)) + (1 : Int32))), _, _], [])) (h' := (T, S)) rfl ?_
    exact t_M_strike_52 scr l0 l1 l4 ((S cM_gone l0 (ix l1)) + (1 : Int32)) S T _ _ _ _ hx hG
set_option maxRecDepth 100000 in
theorem t_M_strike_6 (scr : Nat × (Nat → Int32)) (l0 : Nat) (l1 : Int32) (l2 : Int32) (l3 : Int32) (l4 : Int32) (l5 : Int32) (S : St) (T : St) (d6 d7 : Option iV) {x : St} {o : Option iV × SS} (hx : f_M_strike_6 l0 l1 l2 l3 S (l4, l5) = some x) (hG : (fun x => (none, (T, x)) = o) x) : EB scr 0 1 0 cd_M_strike (6, [some (vR 1 l0), some (vI l1), some (vI l2), some (vI l3), some (vI l4), some (vI l5), d6, d7], []) (T, S) o := by
  exact iter_ind (P := fun q => ∀ d6 d7 : Option iV, EB scr 0 1 0 cd_M_strike (6, [some (vR 1 l0), some (vI l1), some (vI l2), some (vI l3), some (vI q.1), some (vI q.2), d6, d7], []) (T, S) o) (G := fun x => (none, (T, x)) = o) (fun q x hb hP d6 d7 => t_M_strike_6_b scr l0 l1 l2 l3 q.1 q.2 S T d6 d7 hb hP) hx hG d6 d7
def f_M_strike (u : Nat) (a1 : Int32) (a2 : Int32) (a3 : Int32) (S : St) : Option (St) :=
  f_M_strike_6 u a1 a2 a3 S ((0 : Int32), (0 : Int32))
set_option maxRecDepth 100000 in
theorem t_M_strike (scr : Nat × (Nat → Int32)) (u : Nat) (a1 : Int32) (a2 : Int32) (a3 : Int32) (S T : St) {x : St} {o : Option iV × SS} (hx : f_M_strike u a1 a2 a3 S = some x) (hG : (none, (T, x)) = o) : E0 scr 1 57 [vR 1 u, vI a1, vI a2, vI a3] (T, S) o := by
  refine ev_meth (ls := [some (vR 1 u), some (vI a1), some (vI a2), some (vI a3), none, none, none, none]) rfl rfl rfl ?_
  unfold f_M_strike at hx
  refine ev_steps 4 (c' := (6, [some (vR 1 u), some (vI a1), some (vI a2), some (vI a3), some (vI (0 : Int32)), some (vI (0 : Int32)), none, none], [])) (h' := (T, S)) rfl ?_
  exact t_M_strike_6 scr u a1 a2 a3 (0 : Int32) (0 : Int32) S T _ _ hx hG
-- M_count
def f_M_count_71 (l0 : Nat) (l1 : Int32) (l2 : Int32) (l3 : Int32) (l5 : Int32) (s0 : Int32) (S : St) : Option ((Int32 × Int32) ⊕ (Int32)) :=
  some (Sum.inl (s0, l5 + (1 : Int32)))
theorem t_M_count_71 (scr : Nat × (Nat → Int32)) (l0 : Nat) (l1 : Int32) (l2 : Int32) (l3 : Int32) (l5 : Int32) (s0 : Int32) (S : St) (T : St) (d4 d6 : Option iV) {x : (Int32 × Int32) ⊕ (Int32)} {o : Option iV × SS} (hx : f_M_count_71 l0 l1 l2 l3 l5 s0 S = some x) (hG : (Sum.elim (fun q => ∀ d6 : Option iV, EB scr 0 1 1 cd_M_count (13, [some (vR 1 l0), some (vI l1), some (vI l2), some (vI l3), some (vI q.1), some (vI q.2), d6], []) (T, S) o) (fun x => (some (vI x), (T, S)) = o)) x) : EB scr 0 1 1 cd_M_count (71, [some (vR 1 l0), some (vI l1), some (vI l2), some (vI l3), d4, some (vI l5), d6], [vI s0]) (T, S) o := by
  unfold f_M_count_71 at hx
  try dsimp only at hG
  refine ev_steps 3 (c' := (13, [some (vR 1 l0), some (vI l1), some (vI l2), some (vI l3), some (vI s0), some (vI (l5 + (1 : Int32))), _], [])) (h' := (T, S)) rfl ?_
  cases hx
  exact hG _
def f_M_count_69 (l0 : Nat) (l1 : Int32) (l2 : Int32) (l3 : Int32) (l4 : Int32) (l5 : Int32) (S : St) : Option ((Int32 × Int32) ⊕ (Int32)) :=
  f_M_count_71 l0 l1 l2 l3 l5 l4 S
theorem t_M_count_69 (scr : Nat × (Nat → Int32)) (l0 : Nat) (l1 : Int32) (l2 : Int32) (l3 : Int32) (l4 : Int32) (l5 : Int32) (S : St) (T : St) (d6 : Option iV) {x : (Int32 × Int32) ⊕ (Int32)} {o : Option iV × SS} (hx : f_M_count_69 l0 l1 l2 l3 l4 l5 S = some x) (hG : (Sum.elim (fun q => ∀ d6 : Option iV, EB scr 0 1 1 cd_M_count (13, [some (vR 1 l0), some (vI l1), some (vI l2), some (vI l3), some (vI q.1), some (vI q.2), d6], []) (T, S) o) (fun x => (some (vI x), (T, S)) = o)) x) : EB scr 0 1 1 cd_M_count (69, [some (vR 1 l0), some (vI l1), some (vI l2), some (vI l3), some (vI l4), some (vI l5), d6], []) (T, S) o := by
  unfold f_M_count_69 at hx
  try dsimp only at hG
  refine ev_steps 1 (c' := (71, [some (vR 1 l0), some (vI l1), some (vI l2), some (vI l3), some (vI l4), some (vI l5), _], [vI l4])) (h' := (T, S)) rfl ?_
  exact t_M_count_71 scr l0 l1 l2 l3 l5 l4 S T _ _ hx hG
def f_M_count_62 (l0 : Nat) (l1 : Int32) (l2 : Int32) (l3 : Int32) (l4 : Int32) (l5 : Int32) (S : St) : Option ((Int32 × Int32) ⊕ (Int32)) :=
  f_M_count_71 l0 l1 l2 l3 l5 (l4 + (1 : Int32)) S
theorem t_M_count_62 (scr : Nat × (Nat → Int32)) (l0 : Nat) (l1 : Int32) (l2 : Int32) (l3 : Int32) (l4 : Int32) (l5 : Int32) (S : St) (T : St) (d6 : Option iV) {x : (Int32 × Int32) ⊕ (Int32)} {o : Option iV × SS} (hx : f_M_count_62 l0 l1 l2 l3 l4 l5 S = some x) (hG : (Sum.elim (fun q => ∀ d6 : Option iV, EB scr 0 1 1 cd_M_count (13, [some (vR 1 l0), some (vI l1), some (vI l2), some (vI l3), some (vI q.1), some (vI q.2), d6], []) (T, S) o) (fun x => (some (vI x), (T, S)) = o)) x) : EB scr 0 1 1 cd_M_count (62, [some (vR 1 l0), some (vI l1), some (vI l2), some (vI l3), some (vI l4), some (vI l5), d6], []) (T, S) o := by
  unfold f_M_count_62 at hx
  try dsimp only at hG
  refine ev_steps 4 (c' := (71, [some (vR 1 l0), some (vI l1), some (vI l2), some (vI l3), some (vI l4), some (vI l5), _], [vI (l4 + (1 : Int32))])) (h' := (T, S)) rfl ?_
  exact t_M_count_71 scr l0 l1 l2 l3 l5 (l4 + (1 : Int32)) S T _ _ hx hG
def f_M_count_13_b (l0 : Nat) (l1 : Int32) (l2 : Int32) (l3 : Int32) (S : St) : (Int32 × Int32) → Option ((Int32 × Int32) ⊕ (Int32))
  | (l4, l5) => if inb l1 2 = true then if (S cM_given l0 (ix l1)) < l5 then exW (some l4) else (if inb (((32 : Int32) * l1) + (iRem l5 (32 : Int32))) 64 = true then if (S cM_word l0 (ix (((32 : Int32) * l1) + (iRem l5 (32 : Int32))))) = l2 then (if l3 < 0 then f_M_count_62 l0 l1 l2 l3 l4 l5 S else (if inb (((32 : Int32) * l1) + (iRem l5 (32 : Int32))) 64 = true then if (S cM_sentOn l0 (ix (((32 : Int32) * l1) + (iRem l5 (32 : Int32))))) = l3 then f_M_count_62 l0 l1 l2 l3 l4 l5 S else f_M_count_69 l0 l1 l2 l3 l4 l5 S else none)) else f_M_count_69 l0 l1 l2 l3 l4 l5 S else none) else none
def f_M_count_13 (l0 : Nat) (l1 : Int32) (l2 : Int32) (l3 : Int32) (S : St) (q : Int32 × Int32) : Option (Int32) := iter (f_M_count_13_b l0 l1 l2 l3 S) 4096 q
theorem t_M_count_13_b (scr : Nat × (Nat → Int32)) (l0 : Nat) (l1 : Int32) (l2 : Int32) (l3 : Int32) (l4 : Int32) (l5 : Int32) (S : St) (T : St) (d6 : Option iV) {x : (Int32 × Int32) ⊕ (Int32)} {o : Option iV × SS} (hx : f_M_count_13_b l0 l1 l2 l3 S (l4, l5) = some x) (hG : (Sum.elim (fun q => ∀ d6 : Option iV, EB scr 0 1 1 cd_M_count (13, [some (vR 1 l0), some (vI l1), some (vI l2), some (vI l3), some (vI q.1), some (vI q.2), d6], []) (T, S) o) (fun x => (some (vI x), (T, S)) = o)) x) : EB scr 0 1 1 cd_M_count (13, [some (vR 1 l0), some (vI l1), some (vI l2), some (vI l3), some (vI l4), some (vI l5), d6], []) (T, S) o := by
  unfold f_M_count_13_b at hx
  dsimp only at hx
  refine ev_steps 4 (c' := (20, [some (vR 1 l0), some (vI l1), some (vI l2), some (vI l3), some (vI l4), some (vI l5), _], [vI l1, vR 101 l0, vI l5])) (h' := (T, S)) rfl ?_
  obtain ⟨hg, hx⟩ := ifg hx
  refine ev_iald rfl rfl rfl hg ?_
  refine ev_steps 0 (c' := (21, [some (vR 1 l0), some (vI l1), some (vI l2), some (vI l3), some (vI l4), some (vI l5), _], [vI (S cM_given l0 (ix l1)), vI l5])) (h' := (T, S)) rfl ?_
  refine ev_icmp_gt rfl (fun hc => ?_) (fun hc => ?_)
  · rw [if_pos hc] at hx
    obtain ⟨x, hy, rfl⟩ := exW_some hx
    replace hx := hy
    simp only [Sum.elim_inr] at hG
    refine ev_steps 1 (c' := (81, [some (vR 1 l0), some (vI l1), some (vI l2), some (vI l3), some (vI l4), some (vI l5), _], [vI l4])) (h' := (T, S)) rfl ?_
    cases hx
    subst hG
    exact ev_ret rfl rfl
  · rw [if_neg hc] at hx
    refine ev_steps 11 (c' := (42, [some (vR 1 l0), some (vI l1), some (vI l2), some (vI l3), some (vI l4), some (vI l5), some (vI (((32 : Int32) * l1) + (iRem l5 (32 : Int32))))], [vI (((32 : Int32) * l1) + (iRem l5 (32 : Int32))), vR 103 l0])) (h' := (T, S)) rfl ?_
    obtain ⟨hg, hx⟩ := ifg hx
    refine ev_iald rfl rfl rfl hg ?_
    refine ev_steps 1 (c' := (44, [some (vR 1 l0), some (vI l1), some (vI l2), some (vI l3), some (vI l4), some (vI l5), some (vI (((32 : Int32) * l1) + (iRem l5 (32 : Int32))))], [vI l2, vI (S cM_word l0 (ix (((32 : Int32) * l1) + (iRem l5 (32 : Int32)))))])) (h' := (T, S)) rfl ?_
    refine ev_icmp_ne rfl (fun hc => ?_) (fun hc => ?_)
    · rw [if_pos hc] at hx
      refine ev_steps 1 (c' := (48, [some (vR 1 l0), some (vI l1), some (vI l2), some (vI l3), some (vI l4), some (vI l5), some (vI (((32 : Int32) * l1) + (iRem l5 (32 : Int32))))], [vI l3])) (h' := (T, S)) rfl ?_
      refine ev_if_lt rfl (fun hc => ?_) (fun hc => ?_)
      · rw [if_pos hc] at hx
        exact t_M_count_62 scr l0 l1 l2 l3 l4 l5 S T _ hx hG
      · rw [if_neg hc] at hx
        refine ev_steps 3 (c' := (57, [some (vR 1 l0), some (vI l1), some (vI l2), some (vI l3), some (vI l4), some (vI l5), some (vI (((32 : Int32) * l1) + (iRem l5 (32 : Int32))))], [vI (((32 : Int32) * l1) + (iRem l5 (32 : Int32))), vR 108 l0])) (h' := (T, S)) rfl ?_
        obtain ⟨hg, hx⟩ := ifg hx
        refine ev_iald rfl rfl rfl hg ?_
        refine ev_steps 1 (c' := (59, [some (vR 1 l0), some (vI l1), some (vI l2), some (vI l3), some (vI l4), some (vI l5), some (vI (((32 : Int32) * l1) + (iRem l5 (32 : Int32))))], [vI l3, vI (S cM_sentOn l0 (ix (((32 : Int32) * l1) + (iRem l5 (32 : Int32)))))])) (h' := (T, S)) rfl ?_
        refine ev_icmp_ne rfl (fun hc => ?_) (fun hc => ?_)
        · rw [if_pos hc] at hx
          exact t_M_count_62 scr l0 l1 l2 l3 l4 l5 S T _ hx hG
        · rw [if_neg hc] at hx
          exact t_M_count_69 scr l0 l1 l2 l3 l4 l5 S T _ hx hG
    · rw [if_neg hc] at hx
      exact t_M_count_69 scr l0 l1 l2 l3 l4 l5 S T _ hx hG
theorem t_M_count_13 (scr : Nat × (Nat → Int32)) (l0 : Nat) (l1 : Int32) (l2 : Int32) (l3 : Int32) (l4 : Int32) (l5 : Int32) (S : St) (T : St) (d6 : Option iV) {x : Int32} {o : Option iV × SS} (hx : f_M_count_13 l0 l1 l2 l3 S (l4, l5) = some x) (hG : (fun x => (some (vI x), (T, S)) = o) x) : EB scr 0 1 1 cd_M_count (13, [some (vR 1 l0), some (vI l1), some (vI l2), some (vI l3), some (vI l4), some (vI l5), d6], []) (T, S) o := by
  exact iter_ind (P := fun q => ∀ d6 : Option iV, EB scr 0 1 1 cd_M_count (13, [some (vR 1 l0), some (vI l1), some (vI l2), some (vI l3), some (vI q.1), some (vI q.2), d6], []) (T, S) o) (G := fun x => (some (vI x), (T, S)) = o) (fun q x hb hP d6 => t_M_count_13_b scr l0 l1 l2 l3 q.1 q.2 S T d6 hb hP) hx hG d6
def f_M_count (u : Nat) (a1 : Int32) (a2 : Int32) (a3 : Int32) (S : St) : Option (Int32) :=
  if inb a1 2 = true then f_M_count_13 u a1 a2 a3 S ((0 : Int32), (S cM_gone u (ix a1)) + (1 : Int32)) else none
theorem t_M_count (scr : Nat × (Nat → Int32)) (u : Nat) (a1 : Int32) (a2 : Int32) (a3 : Int32) (S T : St) {x : Int32} {o : Option iV × SS} (hx : f_M_count u a1 a2 a3 S = some x) (hG : (some (vI x), (T, S)) = o) : E0 scr 1 53 [vR 1 u, vI a1, vI a2, vI a3] (T, S) o := by
  refine ev_meth (ls := [some (vR 1 u), some (vI a1), some (vI a2), some (vI a3), none, none, none]) rfl rfl rfl ?_
  unfold f_M_count at hx
  refine ev_steps 5 (c' := (8, [some (vR 1 u), some (vI a1), some (vI a2), some (vI a3), some (vI (0 : Int32)), none, none], [vI a1, vR 100 u])) (h' := (T, S)) rfl ?_
  obtain ⟨hg, hx⟩ := ifg hx
  refine ev_iald rfl rfl rfl hg ?_
  refine ev_steps 3 (c' := (13, [some (vR 1 u), some (vI a1), some (vI a2), some (vI a3), some (vI (0 : Int32)), some (vI ((S cM_gone u (ix a1)) + (1 : Int32))), none], [])) (h' := (T, S)) rfl ?_
  exact t_M_count_13 scr u a1 a2 a3 (0 : Int32) ((S cM_gone u (ix a1)) + (1 : Int32)) S T _ hx hG
