/-! Methods as functions on the store, printed by a program. -/
-- M_sendWhatMay
def f_M_sendWhatMay_373 (l0 : Nat) (l1 : Int32) (l2 : Int32) (S : St) : Option ((Int32 × St) ⊕ (St)) :=
  some (Sum.inl (l2 + (1 : Int32), S))
set_option maxRecDepth 100000 in
theorem t_M_sendWhatMay_373 (scr : Nat × (Nat → Int32)) (l0 : Nat) (l1 : Int32) (l2 : Int32) (S : St) (T : St) (d3 d4 d5 d6 d7 d8 d9 : Option iV) {x : (Int32 × St) ⊕ (St)} {o : Option iV × SS} (hx : f_M_sendWhatMay_373 l0 l1 l2 S = some x) (hG : (Sum.elim (fun q => ∀ d3 d4 d5 d6 d7 d8 d9 : Option iV, EB scr 1 1 0 cd_M_sendWhatMay (2, [some (vR 1 l0), some (vI l1), some (vI q.1), d3, d4, d5, d6, d7, d8, d9], []) (T, q.2) o) (fun x => (none, (T, x)) = o)) x) : EB scr 1 1 0 cd_M_sendWhatMay (373, [some (vR 1 l0), some (vI l1), some (vI l2), d3, d4, d5, d6, d7, d8, d9], []) (T, S) o := by
  unfold f_M_sendWhatMay_373 at hx
  try dsimp only at hG
  refine ev_steps 2 (c' := (2, [some (vR 1 l0), some (vI l1), some (vI (l2 + (1 : Int32))), _, _, _, _, _, _, _], [])) (h' := (T, S)) rfl ?_
  cases hx
  exact hG _ _ _ _ _ _ _
def f_M_sendWhatMay_295 (l0 : Nat) (l1 : Int32) (l2 : Int32) (l4 : Int32) (l7 : Int32) (S : St) : Option ((Int32 × St) ⊕ (St)) :=
  if inb l4 64 = true then if inb l4 64 = true then if inb l4 64 = true then if inb (((2 : Int32) * l1) + l7) 4 = true then if (nz (S cM_runs l0 (ix (((2 : Int32) * l1) + l7)))) = 0 then (if inb (((2 : Int32) * l1) + l7) 4 = true then if inb (((2 : Int32) * l1) + l7) 4 = true then if inb (((2 : Int32) * l1) + l7) 4 = true then f_M_sendWhatMay_373 l0 l1 l2 (up3 (up3 (up3 (up3 (up3 S cM_word l0 (ix l4) (2 : Int32)) cM_sentOn l0 (ix l4) l7) cM_strikes l0 (ix l4) (0 : Int32)) cM_runs l0 (ix (((2 : Int32) * l1) + l7)) (1 : Int32)) cM_timer l0 (ix (((2 : Int32) * l1) + l7)) ((S cM_now l0 0) + (S cM_wait l0 (ix (((2 : Int32) * l1) + l7))))) else none else none else none) else f_M_sendWhatMay_373 l0 l1 l2 (up3 (up3 (up3 S cM_word l0 (ix l4) (2 : Int32)) cM_sentOn l0 (ix l4) l7) cM_strikes l0 (ix l4) (0 : Int32)) else none else none else none else none
set_option maxRecDepth 100000 in
theorem t_M_sendWhatMay_295 (scr : Nat × (Nat → Int32)) (l0 : Nat) (l1 : Int32) (l2 : Int32) (l4 : Int32) (l7 : Int32) (S : St) (T : St) (d3 d5 d6 d8 d9 : Option iV) {x : (Int32 × St) ⊕ (St)} {o : Option iV × SS} (hx : f_M_sendWhatMay_295 l0 l1 l2 l4 l7 S = some x) (hG : (Sum.elim (fun q => ∀ d3 d4 d5 d6 d7 d8 d9 : Option iV, EB scr 1 1 0 cd_M_sendWhatMay (2, [some (vR 1 l0), some (vI l1), some (vI q.1), d3, d4, d5, d6, d7, d8, d9], []) (T, q.2) o) (fun x => (none, (T, x)) = o)) x) : EB scr 1 1 0 cd_M_sendWhatMay (295, [some (vR 1 l0), some (vI l1), some (vI l2), d3, some (vI l4), d5, d6, some (vI l7), d8, d9], []) (T, S) o := by
  unfold f_M_sendWhatMay_295 at hx
  try dsimp only at hG
  refine ev_steps 4 (c' := (302, [some (vR 1 l0), some (vI l1), some (vI l2), _, some (vI l4), _, _, some (vI l7), _, _], [vI (2 : Int32), vI l4, vR 103 l0])) (h' := (T, S)) rfl ?_
  obtain ⟨hg, hx⟩ := ifg hx
  refine ev_iast rfl rfl hg ?_
  refine ev_steps 4 (c' := (311, [some (vR 1 l0), some (vI l1), some (vI l2), _, some (vI l4), _, _, some (vI l7), _, _], [vI l7, vI l4, vR 108 l0])) (h' := (T, up3 S cM_word l0 (ix l4) (2 : Int32))) rfl ?_
  obtain ⟨hg, hx⟩ := ifg hx
  refine ev_iast rfl rfl hg ?_
  refine ev_steps 4 (c' := (319, [some (vR 1 l0), some (vI l1), some (vI l2), _, some (vI l4), _, _, some (vI l7), _, _], [vI (0 : Int32), vI l4, vR 109 l0])) (h' := (T, up3 (up3 S cM_word l0 (ix l4) (2 : Int32)) cM_sentOn l0 (ix l4) l7)) rfl ?_
  obtain ⟨hg, hx⟩ := ifg hx
  refine ev_iast rfl rfl hg ?_
  refine ev_steps 7 (c' := (330, [some (vR 1 l0), some (vI l1), some (vI l2), _, some (vI l4), _, _, some (vI l7), _, _], [vI (((2 : Int32) * l1) + l7), vR 95 l0])) (h' := (T, up3 (up3 (up3 S cM_word l0 (ix l4) (2 : Int32)) cM_sentOn l0 (ix l4) l7) cM_strikes l0 (ix l4) (0 : Int32))) rfl ?_
  obtain ⟨hg, hx⟩ := ifg hx
  refine ev_bald rfl rfl hg ?_
  refine ev_steps 0 (c' := (331, [some (vR 1 l0), some (vI l1), some (vI l2), _, some (vI l4), _, _, some (vI l7), _, _], [vI (nz (S cM_runs l0 (ix (((2 : Int32) * l1) + l7))))])) (h' := (T, up3 (up3 (up3 S cM_word l0 (ix l4) (2 : Int32)) cM_sentOn l0 (ix l4) l7) cM_strikes l0 (ix l4) (0 : Int32))) rfl ?_
  refine ev_if_ne rfl (fun hc => ?_) (fun hc => ?_)
  · rw [if_pos hc] at hx
    refine ev_steps 8 (c' := (345, [some (vR 1 l0), some (vI l1), some (vI l2), _, some (vI l4), _, _, some (vI l7), _, _], [vI (1 : Int32), vI (((2 : Int32) * l1) + l7), vR 95 l0])) (h' := (T, up3 (up3 (up3 S cM_word l0 (ix l4) (2 : Int32)) cM_sentOn l0 (ix l4) l7) cM_strikes l0 (ix l4) (0 : Int32))) rfl ?_
    obtain ⟨hg, hx⟩ := ifg hx
    refine ev_bast rfl rfl hg rfl ?_
    refine ev_steps 16 (c' := (370, [some (vR 1 l0), some (vI l1), some (vI l2), _, some (vI l4), _, _, some (vI l7), _, _], [vI (((2 : Int32) * l1) + l7), vR 93 l0, vI (S cM_now l0 0), vI (((2 : Int32) * l1) + l7), vR 96 l0])) (h' := (T, up3 (up3 (up3 (up3 S cM_word l0 (ix l4) (2 : Int32)) cM_sentOn l0 (ix l4) l7) cM_strikes l0 (ix l4) (0 : Int32)) cM_runs l0 (ix (((2 : Int32) * l1) + l7)) (1 : Int32))) rfl ?_
    obtain ⟨hg, hx⟩ := ifg hx
    refine ev_iald rfl rfl rfl hg ?_
    refine ev_steps 1 (c' := (372, [some (vR 1 l0), some (vI l1), some (vI l2), _, some (vI l4), _, _, some (vI l7), _, _], [vI ((S cM_now l0 0) + (S cM_wait l0 (ix (((2 : Int32) * l1) + l7)))), vI (((2 : Int32) * l1) + l7), vR 96 l0])) (h' := (T, up3 (up3 (up3 (up3 S cM_word l0 (ix l4) (2 : Int32)) cM_sentOn l0 (ix l4) l7) cM_strikes l0 (ix l4) (0 : Int32)) cM_runs l0 (ix (((2 : Int32) * l1) + l7)) (1 : Int32))) rfl ?_
    obtain ⟨hg, hx⟩ := ifg hx
    refine ev_iast rfl rfl hg ?_
    refine ev_steps 0 (c' := (373, [some (vR 1 l0), some (vI l1), some (vI l2), _, some (vI l4), _, _, some (vI l7), _, _], [])) (h' := (T, up3 (up3 (up3 (up3 (up3 S cM_word l0 (ix l4) (2 : Int32)) cM_sentOn l0 (ix l4) l7) cM_strikes l0 (ix l4) (0 : Int32)) cM_runs l0 (ix (((2 : Int32) * l1) + l7)) (1 : Int32)) cM_timer l0 (ix (((2 : Int32) * l1) + l7)) ((S cM_now l0 0) + (S cM_wait l0 (ix (((2 : Int32) * l1) + l7)))))) rfl ?_
    exact t_M_sendWhatMay_373 scr l0 l1 l2 (up3 (up3 (up3 (up3 (up3 S cM_word l0 (ix l4) (2 : Int32)) cM_sentOn l0 (ix l4) l7) cM_strikes l0 (ix l4) (0 : Int32)) cM_runs l0 (ix (((2 : Int32) * l1) + l7)) (1 : Int32)) cM_timer l0 (ix (((2 : Int32) * l1) + l7)) ((S cM_now l0 0) + (S cM_wait l0 (ix (((2 : Int32) * l1) + l7))))) T _ _ _ _ _ _ _ hx hG
  · rw [if_neg hc] at hx
    exact t_M_sendWhatMay_373 scr l0 l1 l2 (up3 (up3 (up3 S cM_word l0 (ix l4) (2 : Int32)) cM_sentOn l0 (ix l4) l7) cM_strikes l0 (ix l4) (0 : Int32)) T _ _ _ _ _ _ _ hx hG
def f_M_sendWhatMay_227 (l0 : Nat) (l1 : Int32) (l2 : Int32) (l3 : Int32) (l4 : Int32) (l7 : Int32) (S : St) : Option ((Int32 × St) ⊕ (St)) :=
  bd (f_M_full l0 l1 l7 S) (fun r269 => if inb l1 2 = true then if inb l4 64 = true then bd (f_M_post l0 l1 l7 (S cM_other l0 (ix l1)) (4 : Int32) l3 (S cM_value l0 (ix l4)) S) (fun S272 => if r269 = 0 then (if inb l4 64 = true then if inb l4 64 = true then if inb l4 64 = true then bd (f_M_more l0 (((2 : Int32) * l1) + l7) (S272 cM_stream l0 (ix l4)) (S272 cM_order l0 (ix l4)) (S272 cM_flags l0 (ix l4)) (0 : Int32) S272) (fun S274 => f_M_sendWhatMay_295 l0 l1 l2 l4 l7 S274) else none else none else none) else f_M_sendWhatMay_295 l0 l1 l2 l4 l7 S272) else none else none)
set_option maxRecDepth 100000 in
theorem t_M_sendWhatMay_227 (scr : Nat × (Nat → Int32)) (l0 : Nat) (l1 : Int32) (l2 : Int32) (l3 : Int32) (l4 : Int32) (l7 : Int32) (S : St) (T : St) (d5 d6 d8 d9 : Option iV) {x : (Int32 × St) ⊕ (St)} {o : Option iV × SS} (hx : f_M_sendWhatMay_227 l0 l1 l2 l3 l4 l7 S = some x) (hG : (Sum.elim (fun q => ∀ d3 d4 d5 d6 d7 d8 d9 : Option iV, EB scr 1 1 0 cd_M_sendWhatMay (2, [some (vR 1 l0), some (vI l1), some (vI q.1), d3, d4, d5, d6, d7, d8, d9], []) (T, q.2) o) (fun x => (none, (T, x)) = o)) x) : EB scr 1 1 0 cd_M_sendWhatMay (227, [some (vR 1 l0), some (vI l1), some (vI l2), some (vI l3), some (vI l4), d5, d6, some (vI l7), d8, d9], []) (T, S) o := by
  unfold f_M_sendWhatMay_227 at hx
  try dsimp only at hG
  refine ev_steps 3 (c' := (231, [some (vR 1 l0), some (vI l1), some (vI l2), some (vI l3), some (vI l4), _, _, some (vI l7), _, _], [vI l7, vI l1, vR 1 l0])) (h' := (T, S)) rfl ?_
  obtain ⟨r269, hc, hx⟩ := bd_some hx
  refine ev_call rfl rfl rfl rfl rfl rfl rfl rfl rfl ((t_M_full scr l0 l1 l7 S T hc rfl).mono (by decide)) ?_
  refine ev_steps 7 (c' := (245, [some (vR 1 l0), some (vI l1), some (vI l2), some (vI l3), some (vI l4), _, _, some (vI l7), _, some (vI r269)], [vI l1, vR 81 l0, vI l7, vI l1, vR 1 l0])) (h' := (T, S)) rfl ?_
  obtain ⟨hg, hx⟩ := ifg hx
  refine ev_iald rfl rfl rfl hg ?_
  refine ev_steps 5 (c' := (254, [some (vR 1 l0), some (vI l1), some (vI l2), some (vI l3), some (vI l4), _, _, some (vI l7), _, some (vI r269)], [vI l4, vR 104 l0, vI l3, vI (4 : Int32), vI (S cM_other l0 (ix l1)), vI l7, vI l1, vR 1 l0])) (h' := (T, S)) rfl ?_
  obtain ⟨hg, hx⟩ := ifg hx
  refine ev_iald rfl rfl rfl hg ?_
  refine ev_steps 0 (c' := (255, [some (vR 1 l0), some (vI l1), some (vI l2), some (vI l3), some (vI l4), _, _, some (vI l7), _, some (vI r269)], [vI (S cM_value l0 (ix l4)), vI l3, vI (4 : Int32), vI (S cM_other l0 (ix l1)), vI l7, vI l1, vR 1 l0])) (h' := (T, S)) rfl ?_
  obtain ⟨S272, hc, hx⟩ := bd_some hx
  refine ev_call rfl rfl rfl rfl rfl rfl rfl rfl rfl ((t_M_post scr l0 l1 l7 (S cM_other l0 (ix l1)) (4 : Int32) l3 (S cM_value l0 (ix l4)) S T hc rfl).mono (by decide)) ?_
  refine ev_steps 1 (c' := (260, [some (vR 1 l0), some (vI l1), some (vI l2), some (vI l3), some (vI l4), _, _, some (vI l7), _, some (vI r269)], [vI r269])) (h' := (T, S272)) rfl ?_
  refine ev_if_ne rfl (fun hc => ?_) (fun hc => ?_)
  · rw [if_pos hc] at hx
    refine ev_steps 9 (c' := (276, [some (vR 1 l0), some (vI l1), some (vI l2), some (vI l3), some (vI l4), _, _, some (vI l7), _, some (vI r269)], [vI l4, vR 105 l0, vI (((2 : Int32) * l1) + l7), vR 1 l0])) (h' := (T, S272)) rfl ?_
    obtain ⟨hg, hx⟩ := ifg hx
    refine ev_iald rfl rfl rfl hg ?_
    refine ev_steps 3 (c' := (283, [some (vR 1 l0), some (vI l1), some (vI l2), some (vI l3), some (vI l4), _, _, some (vI l7), _, some (vI r269)], [vI l4, vR 106 l0, vI (S272 cM_stream l0 (ix l4)), vI (((2 : Int32) * l1) + l7), vR 1 l0])) (h' := (T, S272)) rfl ?_
    obtain ⟨hg, hx⟩ := ifg hx
    refine ev_iald rfl rfl rfl hg ?_
    refine ev_steps 3 (c' := (290, [some (vR 1 l0), some (vI l1), some (vI l2), some (vI l3), some (vI l4), _, _, some (vI l7), _, some (vI r269)], [vI l4, vR 107 l0, vI (S272 cM_order l0 (ix l4)), vI (S272 cM_stream l0 (ix l4)), vI (((2 : Int32) * l1) + l7), vR 1 l0])) (h' := (T, S272)) rfl ?_
    obtain ⟨hg, hx⟩ := ifg hx
    refine ev_iald rfl rfl rfl hg ?_
    refine ev_steps 1 (c' := (292, [some (vR 1 l0), some (vI l1), some (vI l2), some (vI l3), some (vI l4), _, _, some (vI l7), _, some (vI r269)], [vI (0 : Int32), vI (S272 cM_flags l0 (ix l4)), vI (S272 cM_order l0 (ix l4)), vI (S272 cM_stream l0 (ix l4)), vI (((2 : Int32) * l1) + l7), vR 1 l0])) (h' := (T, S272)) rfl ?_
    obtain ⟨S274, hc, hx⟩ := bd_some hx
    refine ev_call rfl rfl rfl rfl rfl rfl rfl rfl rfl ((t_M_more scr l0 (((2 : Int32) * l1) + l7) (S272 cM_stream l0 (ix l4)) (S272 cM_order l0 (ix l4)) (S272 cM_flags l0 (ix l4)) (0 : Int32) S272 T hc rfl).mono (by decide)) ?_
    refine ev_steps 0 (c' := (295, [some (vR 1 l0), some (vI l1), some (vI l2), some (vI l3), some (vI l4), _, _, some (vI l7), _, some (vI r269)], [])) (h' := (T, S274)) rfl ?_
    exact t_M_sendWhatMay_295 scr l0 l1 l2 l4 l7 S274 T _ _ _ _ _ hx hG
  · rw [if_neg hc] at hx
    exact t_M_sendWhatMay_295 scr l0 l1 l2 l4 l7 S272 T _ _ _ _ _ hx hG
def f_M_sendWhatMay_164 (l0 : Nat) (l1 : Int32) (l2 : Int32) (l3 : Int32) (l4 : Int32) (l5 : Int32) (s0 : Int32) (S : St) : Option ((Int32 × St) ⊕ (St)) :=
  bd (f_M_count l0 l1 (2 : Int32) (-1 : Int32) S) (fun r263 => bd (f_M_count l0 l1 (3 : Int32) (-1 : Int32) S) (fun r265 => bd (f_M_count l0 l1 (2 : Int32) s0 S) (fun r267 => if inb (((2 : Int32) * l1) + s0) 4 = true then if r267 < (S cM_rate l0 (ix (((2 : Int32) * l1) + s0))) then (if l5 = 0 then f_M_sendWhatMay_227 l0 l1 l2 l3 l4 s0 S else (if inb l1 2 = true then if (r263 + r265) < (S cM_window l0 (ix l1)) then f_M_sendWhatMay_227 l0 l1 l2 l3 l4 s0 S else (if 0 < (r263 + r265) then exW (some S) else f_M_sendWhatMay_227 l0 l1 l2 l3 l4 s0 S) else none)) else exW (some S) else none)))
set_option maxRecDepth 100000 in
theorem t_M_sendWhatMay_164 (scr : Nat × (Nat → Int32)) (l0 : Nat) (l1 : Int32) (l2 : Int32) (l3 : Int32) (l4 : Int32) (l5 : Int32) (s0 : Int32) (S : St) (T : St) (d6 d7 d8 d9 : Option iV) {x : (Int32 × St) ⊕ (St)} {o : Option iV × SS} (hx : f_M_sendWhatMay_164 l0 l1 l2 l3 l4 l5 s0 S = some x) (hG : (Sum.elim (fun q => ∀ d3 d4 d5 d6 d7 d8 d9 : Option iV, EB scr 1 1 0 cd_M_sendWhatMay (2, [some (vR 1 l0), some (vI l1), some (vI q.1), d3, d4, d5, d6, d7, d8, d9], []) (T, q.2) o) (fun x => (none, (T, x)) = o)) x) : EB scr 1 1 0 cd_M_sendWhatMay (164, [some (vR 1 l0), some (vI l1), some (vI l2), some (vI l3), some (vI l4), some (vI l5), d6, d7, d8, d9], [vI s0]) (T, S) o := by
  unfold f_M_sendWhatMay_164 at hx
  try dsimp only at hG
  refine ev_steps 5 (c' := (170, [some (vR 1 l0), some (vI l1), some (vI l2), some (vI l3), some (vI l4), some (vI l5), _, some (vI s0), _, _], [vI (-1 : Int32), vI (2 : Int32), vI l1, vR 1 l0])) (h' := (T, S)) rfl ?_
  obtain ⟨r263, hc, hx⟩ := bd_some hx
  refine ev_call rfl rfl rfl rfl rfl rfl rfl rfl rfl ((t_M_count scr l0 l1 (2 : Int32) (-1 : Int32) S T hc rfl).mono (by decide)) ?_
  refine ev_steps 4 (c' := (177, [some (vR 1 l0), some (vI l1), some (vI l2), some (vI l3), some (vI l4), some (vI l5), _, some (vI s0), _, _], [vI (-1 : Int32), vI (3 : Int32), vI l1, vR 1 l0, vI r263])) (h' := (T, S)) rfl ?_
  obtain ⟨r265, hc, hx⟩ := bd_some hx
  refine ev_call rfl rfl rfl rfl rfl rfl rfl rfl rfl ((t_M_count scr l0 l1 (3 : Int32) (-1 : Int32) S T hc rfl).mono (by decide)) ?_
  refine ev_steps 6 (c' := (188, [some (vR 1 l0), some (vI l1), some (vI l2), some (vI l3), some (vI l4), some (vI l5), _, some (vI s0), some (vI (r263 + r265)), _], [vI s0, vI (2 : Int32), vI l1, vR 1 l0])) (h' := (T, S)) rfl ?_
  obtain ⟨r267, hc, hx⟩ := bd_some hx
  refine ev_call rfl rfl rfl rfl rfl rfl rfl rfl rfl ((t_M_count scr l0 l1 (2 : Int32) s0 S T hc rfl).mono (by decide)) ?_
  refine ev_steps 7 (c' := (201, [some (vR 1 l0), some (vI l1), some (vI l2), some (vI l3), some (vI l4), some (vI l5), _, some (vI s0), some (vI (r263 + r265)), _], [vI (((2 : Int32) * l1) + s0), vR 92 l0, vI r267])) (h' := (T, S)) rfl ?_
  obtain ⟨hg, hx⟩ := ifg hx
  refine ev_iald rfl rfl rfl hg ?_
  refine ev_steps 0 (c' := (202, [some (vR 1 l0), some (vI l1), some (vI l2), some (vI l3), some (vI l4), some (vI l5), _, some (vI s0), some (vI (r263 + r265)), _], [vI (S cM_rate l0 (ix (((2 : Int32) * l1) + s0))), vI r267])) (h' := (T, S)) rfl ?_
  refine ev_icmp_ge rfl (fun hc => ?_) (fun hc => ?_)
  · rw [if_pos hc] at hx
    refine ev_steps 1 (c' := (207, [some (vR 1 l0), some (vI l1), some (vI l2), some (vI l3), some (vI l4), some (vI l5), _, some (vI s0), some (vI (r263 + r265)), _], [vI l5])) (h' := (T, S)) rfl ?_
    refine ev_if_eq rfl (fun hc => ?_) (fun hc => ?_)
    · rw [if_pos hc] at hx
      exact t_M_sendWhatMay_227 scr l0 l1 l2 l3 l4 s0 S T _ _ _ _ hx hG
    · rw [if_neg hc] at hx
      refine ev_steps 4 (c' := (217, [some (vR 1 l0), some (vI l1), some (vI l2), some (vI l3), some (vI l4), some (vI l5), _, some (vI s0), some (vI (r263 + r265)), _], [vI l1, vR 90 l0, vI (r263 + r265)])) (h' := (T, S)) rfl ?_
      obtain ⟨hg, hx⟩ := ifg hx
      refine ev_iald rfl rfl rfl hg ?_
      refine ev_steps 0 (c' := (218, [some (vR 1 l0), some (vI l1), some (vI l2), some (vI l3), some (vI l4), some (vI l5), _, some (vI s0), some (vI (r263 + r265)), _], [vI (S cM_window l0 (ix l1)), vI (r263 + r265)])) (h' := (T, S)) rfl ?_
      refine ev_icmp_lt rfl (fun hc => ?_) (fun hc => ?_)
      · rw [if_pos hc] at hx
        exact t_M_sendWhatMay_227 scr l0 l1 l2 l3 l4 s0 S T _ _ _ _ hx hG
      · rw [if_neg hc] at hx
        refine ev_steps 1 (c' := (223, [some (vR 1 l0), some (vI l1), some (vI l2), some (vI l3), some (vI l4), some (vI l5), _, some (vI s0), some (vI (r263 + r265)), _], [vI (r263 + r265)])) (h' := (T, S)) rfl ?_
        refine ev_if_le rfl (fun hc => ?_) (fun hc => ?_)
        · rw [if_pos hc] at hx
          obtain ⟨x, hy, rfl⟩ := exW_some hx
          replace hx := hy
          simp only [Sum.elim_inr] at hG
          cases hx
          subst hG
          exact ev_ret rfl rfl
        · rw [if_neg hc] at hx
          exact t_M_sendWhatMay_227 scr l0 l1 l2 l3 l4 s0 S T _ _ _ _ hx hG
  · rw [if_neg hc] at hx
    obtain ⟨x, hy, rfl⟩ := exW_some hx
    replace hx := hy
    simp only [Sum.elim_inr] at hG
    cases hx
    subst hG
    exact ev_ret rfl rfl
def f_M_sendWhatMay_140 (l0 : Nat) (l1 : Int32) (l2 : Int32) (l3 : Int32) (l4 : Int32) (l5 : Int32) (s0 : Int32) (S : St) : Option ((Int32 × St) ⊕ (St)) :=
  if s0 = 0 then (bd (f_M_pathToUse l0 l1 S) (fun r261 => f_M_sendWhatMay_164 l0 l1 l2 l3 l4 l5 r261 S)) else (if inb l4 64 = true then f_M_sendWhatMay_164 l0 l1 l2 l3 l4 l5 ((1 : Int32) - (S cM_sentOn l0 (ix l4))) S else none)
set_option maxRecDepth 100000 in
theorem t_M_sendWhatMay_140 (scr : Nat × (Nat → Int32)) (l0 : Nat) (l1 : Int32) (l2 : Int32) (l3 : Int32) (l4 : Int32) (l5 : Int32) (s0 : Int32) (S : St) (T : St) (d6 d7 d8 d9 : Option iV) {x : (Int32 × St) ⊕ (St)} {o : Option iV × SS} (hx : f_M_sendWhatMay_140 l0 l1 l2 l3 l4 l5 s0 S = some x) (hG : (Sum.elim (fun q => ∀ d3 d4 d5 d6 d7 d8 d9 : Option iV, EB scr 1 1 0 cd_M_sendWhatMay (2, [some (vR 1 l0), some (vI l1), some (vI q.1), d3, d4, d5, d6, d7, d8, d9], []) (T, q.2) o) (fun x => (none, (T, x)) = o)) x) : EB scr 1 1 0 cd_M_sendWhatMay (140, [some (vR 1 l0), some (vI l1), some (vI l2), some (vI l3), some (vI l4), some (vI l5), d6, d7, d8, d9], [vI s0]) (T, S) o := by
  unfold f_M_sendWhatMay_140 at hx
  try dsimp only at hG
  refine ev_steps 2 (c' := (144, [some (vR 1 l0), some (vI l1), some (vI l2), some (vI l3), some (vI l4), some (vI l5), some (vI s0), _, _, _], [vI s0])) (h' := (T, S)) rfl ?_
  refine ev_if_eq rfl (fun hc => ?_) (fun hc => ?_)
  · rw [if_pos hc] at hx
    refine ev_steps 2 (c' := (161, [some (vR 1 l0), some (vI l1), some (vI l2), some (vI l3), some (vI l4), some (vI l5), some (vI s0), _, _, _], [vI l1, vR 1 l0])) (h' := (T, S)) rfl ?_
    obtain ⟨r261, hc, hx⟩ := bd_some hx
    refine ev_call rfl rfl rfl rfl rfl rfl rfl rfl rfl ((t_M_pathToUse scr l0 l1 S T hc rfl).mono (by decide)) ?_
    refine ev_steps 0 (c' := (164, [some (vR 1 l0), some (vI l1), some (vI l2), some (vI l3), some (vI l4), some (vI l5), some (vI s0), _, _, _], [vI r261])) (h' := (T, S)) rfl ?_
    exact t_M_sendWhatMay_164 scr l0 l1 l2 l3 l4 l5 r261 S T _ _ _ _ hx hG
  · rw [if_neg hc] at hx
    refine ev_steps 4 (c' := (154, [some (vR 1 l0), some (vI l1), some (vI l2), some (vI l3), some (vI l4), some (vI l5), some (vI s0), _, _, _], [vI l4, vR 108 l0, vI (1 : Int32)])) (h' := (T, S)) rfl ?_
    obtain ⟨hg, hx⟩ := ifg hx
    refine ev_iald rfl rfl rfl hg ?_
    refine ev_steps 2 (c' := (164, [some (vR 1 l0), some (vI l1), some (vI l2), some (vI l3), some (vI l4), some (vI l5), some (vI s0), _, _, _], [vI ((1 : Int32) - (S cM_sentOn l0 (ix l4)))])) (h' := (T, S)) rfl ?_
    exact t_M_sendWhatMay_164 scr l0 l1 l2 l3 l4 l5 ((1 : Int32) - (S cM_sentOn l0 (ix l4))) S T _ _ _ _ hx hG
def f_M_sendWhatMay_139 (l0 : Nat) (l1 : Int32) (l2 : Int32) (l3 : Int32) (l4 : Int32) (l5 : Int32) (S : St) : Option ((Int32 × St) ⊕ (St)) :=
  f_M_sendWhatMay_140 l0 l1 l2 l3 l4 l5 (0 : Int32) S
set_option maxRecDepth 100000 in
theorem t_M_sendWhatMay_139 (scr : Nat × (Nat → Int32)) (l0 : Nat) (l1 : Int32) (l2 : Int32) (l3 : Int32) (l4 : Int32) (l5 : Int32) (S : St) (T : St) (d6 d7 d8 d9 : Option iV) {x : (Int32 × St) ⊕ (St)} {o : Option iV × SS} (hx : f_M_sendWhatMay_139 l0 l1 l2 l3 l4 l5 S = some x) (hG : (Sum.elim (fun q => ∀ d3 d4 d5 d6 d7 d8 d9 : Option iV, EB scr 1 1 0 cd_M_sendWhatMay (2, [some (vR 1 l0), some (vI l1), some (vI q.1), d3, d4, d5, d6, d7, d8, d9], []) (T, q.2) o) (fun x => (none, (T, x)) = o)) x) : EB scr 1 1 0 cd_M_sendWhatMay (139, [some (vR 1 l0), some (vI l1), some (vI l2), some (vI l3), some (vI l4), some (vI l5), d6, d7, d8, d9], []) (T, S) o := by
  unfold f_M_sendWhatMay_139 at hx
  try dsimp only at hG
  refine ev_steps 1 (c' := (140, [some (vR 1 l0), some (vI l1), some (vI l2), some (vI l3), some (vI l4), some (vI l5), _, _, _, _], [vI (0 : Int32)])) (h' := (T, S)) rfl ?_
  exact t_M_sendWhatMay_140 scr l0 l1 l2 l3 l4 l5 (0 : Int32) S T _ _ _ _ hx hG
def f_M_sendWhatMay_107 (l0 : Nat) (l1 : Int32) (l2 : Int32) (l3 : Int32) (l4 : Int32) (s0 : Int32) (S : St) : Option ((Int32 × St) ⊕ (St)) :=
  if s0 = 0 then (if inb l4 64 = true then if inb ((((2 : Int32) * l1) + (1 : Int32)) - (S cM_sentOn l0 (ix l4))) 4 = true then if (nz (S cM_active l0 (ix ((((2 : Int32) * l1) + (1 : Int32)) - (S cM_sentOn l0 (ix l4)))))) = 0 then f_M_sendWhatMay_139 l0 l1 l2 l3 l4 s0 S else f_M_sendWhatMay_140 l0 l1 l2 l3 l4 s0 (1 : Int32) S else none else none) else f_M_sendWhatMay_139 l0 l1 l2 l3 l4 s0 S
set_option maxRecDepth 100000 in
theorem t_M_sendWhatMay_107 (scr : Nat × (Nat → Int32)) (l0 : Nat) (l1 : Int32) (l2 : Int32) (l3 : Int32) (l4 : Int32) (s0 : Int32) (S : St) (T : St) (d5 d6 d7 d8 d9 : Option iV) {x : (Int32 × St) ⊕ (St)} {o : Option iV × SS} (hx : f_M_sendWhatMay_107 l0 l1 l2 l3 l4 s0 S = some x) (hG : (Sum.elim (fun q => ∀ d3 d4 d5 d6 d7 d8 d9 : Option iV, EB scr 1 1 0 cd_M_sendWhatMay (2, [some (vR 1 l0), some (vI l1), some (vI q.1), d3, d4, d5, d6, d7, d8, d9], []) (T, q.2) o) (fun x => (none, (T, x)) = o)) x) : EB scr 1 1 0 cd_M_sendWhatMay (107, [some (vR 1 l0), some (vI l1), some (vI l2), some (vI l3), some (vI l4), d5, d6, d7, d8, d9], [vI s0]) (T, S) o := by
  unfold f_M_sendWhatMay_107 at hx
  try dsimp only at hG
  refine ev_steps 2 (c' := (111, [some (vR 1 l0), some (vI l1), some (vI l2), some (vI l3), some (vI l4), some (vI s0), _, _, _, _], [vI s0])) (h' := (T, S)) rfl ?_
  refine ev_if_ne rfl (fun hc => ?_) (fun hc => ?_)
  · rw [if_pos hc] at hx
    refine ev_steps 10 (c' := (129, [some (vR 1 l0), some (vI l1), some (vI l2), some (vI l3), some (vI l4), some (vI s0), _, _, _, _], [vI l4, vR 108 l0, vI (((2 : Int32) * l1) + (1 : Int32)), vR 91 l0])) (h' := (T, S)) rfl ?_
    obtain ⟨hg, hx⟩ := ifg hx
    refine ev_iald rfl rfl rfl hg ?_
    refine ev_steps 1 (c' := (131, [some (vR 1 l0), some (vI l1), some (vI l2), some (vI l3), some (vI l4), some (vI s0), _, _, _, _], [vI ((((2 : Int32) * l1) + (1 : Int32)) - (S cM_sentOn l0 (ix l4))), vR 91 l0])) (h' := (T, S)) rfl ?_
    obtain ⟨hg, hx⟩ := ifg hx
    refine ev_bald rfl rfl hg ?_
    refine ev_steps 0 (c' := (132, [some (vR 1 l0), some (vI l1), some (vI l2), some (vI l3), some (vI l4), some (vI s0), _, _, _, _], [vI (nz (S cM_active l0 (ix ((((2 : Int32) * l1) + (1 : Int32)) - (S cM_sentOn l0 (ix l4))))))])) (h' := (T, S)) rfl ?_
    refine ev_if_eq rfl (fun hc => ?_) (fun hc => ?_)
    · rw [if_pos hc] at hx
      exact t_M_sendWhatMay_139 scr l0 l1 l2 l3 l4 s0 S T _ _ _ _ hx hG
    · rw [if_neg hc] at hx
      refine ev_steps 2 (c' := (140, [some (vR 1 l0), some (vI l1), some (vI l2), some (vI l3), some (vI l4), some (vI s0), _, _, _, _], [vI (1 : Int32)])) (h' := (T, S)) rfl ?_
      exact t_M_sendWhatMay_140 scr l0 l1 l2 l3 l4 s0 (1 : Int32) S T _ _ _ _ hx hG
  · rw [if_neg hc] at hx
    exact t_M_sendWhatMay_139 scr l0 l1 l2 l3 l4 s0 S T _ _ _ _ hx hG
def f_M_sendWhatMay_69 (l0 : Nat) (l1 : Int32) (l2 : Int32) (l3 : Int32) (S : St) : Option ((Int32 × St) ⊕ (St)) :=
  if inb l1 2 = true then if (S cM_given l0 (ix l1)) < l3 then exW (some S) else (if inb (((32 : Int32) * l1) + (iRem l3 (32 : Int32))) 64 = true then if (S cM_word l0 (ix (((32 : Int32) * l1) + (iRem l3 (32 : Int32))))) = (1 : Int32) then f_M_sendWhatMay_107 l0 l1 l2 l3 (((32 : Int32) * l1) + (iRem l3 (32 : Int32))) (1 : Int32) S else f_M_sendWhatMay_107 l0 l1 l2 l3 (((32 : Int32) * l1) + (iRem l3 (32 : Int32))) (0 : Int32) S else none) else none
set_option maxRecDepth 100000 in
theorem t_M_sendWhatMay_69 (scr : Nat × (Nat → Int32)) (l0 : Nat) (l1 : Int32) (l2 : Int32) (l3 : Int32) (S : St) (T : St) (d4 d5 d6 d7 d8 d9 : Option iV) {x : (Int32 × St) ⊕ (St)} {o : Option iV × SS} (hx : f_M_sendWhatMay_69 l0 l1 l2 l3 S = some x) (hG : (Sum.elim (fun q => ∀ d3 d4 d5 d6 d7 d8 d9 : Option iV, EB scr 1 1 0 cd_M_sendWhatMay (2, [some (vR 1 l0), some (vI l1), some (vI q.1), d3, d4, d5, d6, d7, d8, d9], []) (T, q.2) o) (fun x => (none, (T, x)) = o)) x) : EB scr 1 1 0 cd_M_sendWhatMay (69, [some (vR 1 l0), some (vI l1), some (vI l2), some (vI l3), d4, d5, d6, d7, d8, d9], []) (T, S) o := by
  unfold f_M_sendWhatMay_69 at hx
  try dsimp only at hG
  refine ev_steps 4 (c' := (75, [some (vR 1 l0), some (vI l1), some (vI l2), some (vI l3), _, _, _, _, _, _], [vI l1, vR 101 l0, vI l3])) (h' := (T, S)) rfl ?_
  obtain ⟨hg, hx⟩ := ifg hx
  refine ev_iald rfl rfl rfl hg ?_
  refine ev_steps 0 (c' := (76, [some (vR 1 l0), some (vI l1), some (vI l2), some (vI l3), _, _, _, _, _, _], [vI (S cM_given l0 (ix l1)), vI l3])) (h' := (T, S)) rfl ?_
  refine ev_icmp_le rfl (fun hc => ?_) (fun hc => ?_)
  · rw [if_pos hc] at hx
    obtain ⟨x, hy, rfl⟩ := exW_some hx
    replace hx := hy
    simp only [Sum.elim_inr] at hG
    cases hx
    subst hG
    exact ev_ret rfl rfl
  · rw [if_neg hc] at hx
    refine ev_steps 11 (c' := (97, [some (vR 1 l0), some (vI l1), some (vI l2), some (vI l3), some (vI (((32 : Int32) * l1) + (iRem l3 (32 : Int32)))), _, _, _, _, _], [vI (((32 : Int32) * l1) + (iRem l3 (32 : Int32))), vR 103 l0])) (h' := (T, S)) rfl ?_
    obtain ⟨hg, hx⟩ := ifg hx
    refine ev_iald rfl rfl rfl hg ?_
    refine ev_steps 1 (c' := (99, [some (vR 1 l0), some (vI l1), some (vI l2), some (vI l3), some (vI (((32 : Int32) * l1) + (iRem l3 (32 : Int32)))), _, _, _, _, _], [vI (1 : Int32), vI (S cM_word l0 (ix (((32 : Int32) * l1) + (iRem l3 (32 : Int32)))))])) (h' := (T, S)) rfl ?_
    refine ev_icmp_ne rfl (fun hc => ?_) (fun hc => ?_)
    · rw [if_pos hc] at hx
      refine ev_steps 2 (c' := (107, [some (vR 1 l0), some (vI l1), some (vI l2), some (vI l3), some (vI (((32 : Int32) * l1) + (iRem l3 (32 : Int32)))), _, _, _, _, _], [vI (1 : Int32)])) (h' := (T, S)) rfl ?_
      exact t_M_sendWhatMay_107 scr l0 l1 l2 l3 (((32 : Int32) * l1) + (iRem l3 (32 : Int32))) (1 : Int32) S T _ _ _ _ _ hx hG
    · rw [if_neg hc] at hx
      refine ev_steps 1 (c' := (107, [some (vR 1 l0), some (vI l1), some (vI l2), some (vI l3), some (vI (((32 : Int32) * l1) + (iRem l3 (32 : Int32)))), _, _, _, _, _], [vI (0 : Int32)])) (h' := (T, S)) rfl ?_
      exact t_M_sendWhatMay_107 scr l0 l1 l2 l3 (((32 : Int32) * l1) + (iRem l3 (32 : Int32))) (0 : Int32) S T _ _ _ _ _ hx hG
def f_M_sendWhatMay_17_b (l0 : Nat) (l1 : Int32) (l2 : Int32) (S : St) : (Int32) → Option ((Int32) ⊕ ((Int32 × St) ⊕ (St)))
  | l3 => if inb l1 2 = true then if (S cM_given l0 (ix l1)) < l3 then exW (f_M_sendWhatMay_69 l0 l1 l2 l3 S) else (if inb (((32 : Int32) * l1) + (iRem l3 (32 : Int32))) 64 = true then if (S cM_word l0 (ix (((32 : Int32) * l1) + (iRem l3 (32 : Int32))))) = (1 : Int32) then exW (f_M_sendWhatMay_69 l0 l1 l2 l3 S) else (if inb (((32 : Int32) * l1) + (iRem l3 (32 : Int32))) 64 = true then if (S cM_word l0 (ix (((32 : Int32) * l1) + (iRem l3 (32 : Int32))))) = (3 : Int32) then exW (f_M_sendWhatMay_69 l0 l1 l2 l3 S) else some (Sum.inl (l3 + (1 : Int32))) else none) else none) else none
def f_M_sendWhatMay_17 (l0 : Nat) (l1 : Int32) (l2 : Int32) (S : St) (q : Int32) : Option ((Int32 × St) ⊕ (St)) := iter (f_M_sendWhatMay_17_b l0 l1 l2 S) 4096 q
set_option maxRecDepth 100000 in
theorem t_M_sendWhatMay_17_b (scr : Nat × (Nat → Int32)) (l0 : Nat) (l1 : Int32) (l2 : Int32) (l3 : Int32) (S : St) (T : St) (d4 d5 d6 d7 d8 d9 : Option iV) {x : (Int32) ⊕ ((Int32 × St) ⊕ (St))} {o : Option iV × SS} (hx : f_M_sendWhatMay_17_b l0 l1 l2 S l3 = some x) (hG : (Sum.elim (fun q => ∀ d4 d5 d6 d7 d8 d9 : Option iV, EB scr 1 1 0 cd_M_sendWhatMay (17, [some (vR 1 l0), some (vI l1), some (vI l2), some (vI q), d4, d5, d6, d7, d8, d9], []) (T, S) o) (Sum.elim (fun q => ∀ d3 d4 d5 d6 d7 d8 d9 : Option iV, EB scr 1 1 0 cd_M_sendWhatMay (2, [some (vR 1 l0), some (vI l1), some (vI q.1), d3, d4, d5, d6, d7, d8, d9], []) (T, q.2) o) (fun x => (none, (T, x)) = o))) x) : EB scr 1 1 0 cd_M_sendWhatMay (17, [some (vR 1 l0), some (vI l1), some (vI l2), some (vI l3), d4, d5, d6, d7, d8, d9], []) (T, S) o := by
  unfold f_M_sendWhatMay_17_b at hx
  dsimp only at hx
  refine ev_steps 4 (c' := (23, [some (vR 1 l0), some (vI l1), some (vI l2), some (vI l3), _, _, _, _, _, _], [vI l1, vR 101 l0, vI l3])) (h' := (T, S)) rfl ?_
  obtain ⟨hg, hx⟩ := ifg hx
  refine ev_iald rfl rfl rfl hg ?_
  refine ev_steps 0 (c' := (24, [some (vR 1 l0), some (vI l1), some (vI l2), some (vI l3), _, _, _, _, _, _], [vI (S cM_given l0 (ix l1)), vI l3])) (h' := (T, S)) rfl ?_
  refine ev_icmp_gt rfl (fun hc => ?_) (fun hc => ?_)
  · rw [if_pos hc] at hx
    obtain ⟨x, hy, rfl⟩ := exW_some hx
    replace hx := hy
    simp only [Sum.elim_inr] at hG
    exact t_M_sendWhatMay_69 scr l0 l1 l2 l3 S T _ _ _ _ _ _ hx hG
  · rw [if_neg hc] at hx
    refine ev_steps 9 (c' := (40, [some (vR 1 l0), some (vI l1), some (vI l2), some (vI l3), _, _, _, _, _, _], [vI (((32 : Int32) * l1) + (iRem l3 (32 : Int32))), vR 103 l0])) (h' := (T, S)) rfl ?_
    obtain ⟨hg, hx⟩ := ifg hx
    refine ev_iald rfl rfl rfl hg ?_
    refine ev_steps 1 (c' := (42, [some (vR 1 l0), some (vI l1), some (vI l2), some (vI l3), _, _, _, _, _, _], [vI (1 : Int32), vI (S cM_word l0 (ix (((32 : Int32) * l1) + (iRem l3 (32 : Int32)))))])) (h' := (T, S)) rfl ?_
    refine ev_icmp_eq rfl (fun hc => ?_) (fun hc => ?_)
    · rw [if_pos hc] at hx
      obtain ⟨x, hy, rfl⟩ := exW_some hx
      replace hx := hy
      simp only [Sum.elim_inr] at hG
      exact t_M_sendWhatMay_69 scr l0 l1 l2 l3 S T _ _ _ _ _ _ hx hG
    · rw [if_neg hc] at hx
      refine ev_steps 9 (c' := (58, [some (vR 1 l0), some (vI l1), some (vI l2), some (vI l3), _, _, _, _, _, _], [vI (((32 : Int32) * l1) + (iRem l3 (32 : Int32))), vR 103 l0])) (h' := (T, S)) rfl ?_
      obtain ⟨hg, hx⟩ := ifg hx
      refine ev_iald rfl rfl rfl hg ?_
      refine ev_steps 1 (c' := (60, [some (vR 1 l0), some (vI l1), some (vI l2), some (vI l3), _, _, _, _, _, _], [vI (3 : Int32), vI (S cM_word l0 (ix (((32 : Int32) * l1) + (iRem l3 (32 : Int32)))))])) (h' := (T, S)) rfl ?_
      refine ev_icmp_eq rfl (fun hc => ?_) (fun hc => ?_)
      · rw [if_pos hc] at hx
        obtain ⟨x, hy, rfl⟩ := exW_some hx
        replace hx := hy
        simp only [Sum.elim_inr] at hG
        exact t_M_sendWhatMay_69 scr l0 l1 l2 l3 S T _ _ _ _ _ _ hx hG
      · rw [if_neg hc] at hx
        refine ev_steps 2 (c' := (17, [some (vR 1 l0), some (vI l1), some (vI l2), some (vI (l3 + (1 : Int32))), _, _, _, _, _, _], [])) (h' := (T, S)) rfl ?_
        cases hx
        exact hG _ _ _ _ _ _
set_option maxRecDepth 100000 in
theorem t_M_sendWhatMay_17 (scr : Nat × (Nat → Int32)) (l0 : Nat) (l1 : Int32) (l2 : Int32) (l3 : Int32) (S : St) (T : St) (d4 d5 d6 d7 d8 d9 : Option iV) {x : (Int32 × St) ⊕ (St)} {o : Option iV × SS} (hx : f_M_sendWhatMay_17 l0 l1 l2 S l3 = some x) (hG : (Sum.elim (fun q => ∀ d3 d4 d5 d6 d7 d8 d9 : Option iV, EB scr 1 1 0 cd_M_sendWhatMay (2, [some (vR 1 l0), some (vI l1), some (vI q.1), d3, d4, d5, d6, d7, d8, d9], []) (T, q.2) o) (fun x => (none, (T, x)) = o)) x) : EB scr 1 1 0 cd_M_sendWhatMay (17, [some (vR 1 l0), some (vI l1), some (vI l2), some (vI l3), d4, d5, d6, d7, d8, d9], []) (T, S) o := by
  exact iter_ind (P := fun q => ∀ d4 d5 d6 d7 d8 d9 : Option iV, EB scr 1 1 0 cd_M_sendWhatMay (17, [some (vR 1 l0), some (vI l1), some (vI l2), some (vI q), d4, d5, d6, d7, d8, d9], []) (T, S) o) (G := Sum.elim (fun q => ∀ d3 d4 d5 d6 d7 d8 d9 : Option iV, EB scr 1 1 0 cd_M_sendWhatMay (2, [some (vR 1 l0), some (vI l1), some (vI q.1), d3, d4, d5, d6, d7, d8, d9], []) (T, q.2) o) (fun x => (none, (T, x)) = o)) (fun q x hb hP d4 d5 d6 d7 d8 d9 => t_M_sendWhatMay_17_b scr l0 l1 l2 q S T d4 d5 d6 d7 d8 d9 hb hP) hx hG d4 d5 d6 d7 d8 d9
def f_M_sendWhatMay_2_b (l0 : Nat) (l1 : Int32)  : (Int32 × St) → Option ((Int32 × St) ⊕ (St))
  | (l2, S) => if l2 < (64 : Int32) then (if inb l1 2 = true then f_M_sendWhatMay_17 l0 l1 l2 S ((S cM_gone l0 (ix l1)) + (1 : Int32)) else none) else exW (some S)
def f_M_sendWhatMay_2 (l0 : Nat) (l1 : Int32)  (q : Int32 × St) : Option (St) := iter (f_M_sendWhatMay_2_b l0 l1) 4096 q
set_option maxRecDepth 100000 in
theorem t_M_sendWhatMay_2_b (scr : Nat × (Nat → Int32)) (l0 : Nat) (l1 : Int32) (l2 : Int32) (S : St) (T : St) (d3 d4 d5 d6 d7 d8 d9 : Option iV) {x : (Int32 × St) ⊕ (St)} {o : Option iV × SS} (hx : f_M_sendWhatMay_2_b l0 l1 (l2, S) = some x) (hG : (Sum.elim (fun q => ∀ d3 d4 d5 d6 d7 d8 d9 : Option iV, EB scr 1 1 0 cd_M_sendWhatMay (2, [some (vR 1 l0), some (vI l1), some (vI q.1), d3, d4, d5, d6, d7, d8, d9], []) (T, q.2) o) (fun x => (none, (T, x)) = o)) x) : EB scr 1 1 0 cd_M_sendWhatMay (2, [some (vR 1 l0), some (vI l1), some (vI l2), d3, d4, d5, d6, d7, d8, d9], []) (T, S) o := by
  unfold f_M_sendWhatMay_2_b at hx
  dsimp only at hx
  refine ev_steps 2 (c' := (5, [some (vR 1 l0), some (vI l1), some (vI l2), _, _, _, _, _, _, _], [vI (64 : Int32), vI l2])) (h' := (T, S)) rfl ?_
  refine ev_icmp_ge rfl (fun hc => ?_) (fun hc => ?_)
  · rw [if_pos hc] at hx
    refine ev_steps 3 (c' := (13, [some (vR 1 l0), some (vI l1), some (vI l2), _, _, _, _, _, _, _], [vI l1, vR 100 l0])) (h' := (T, S)) rfl ?_
    obtain ⟨hg, hx⟩ := ifg hx
    refine ev_iald rfl rfl rfl hg ?_
    refine ev_steps 3 (c' := (17, [some (vR 1 l0), some (vI l1), some (vI l2), some (vI ((S cM_gone l0 (ix l1)) + (1 : Int32))), _, _, _, _, _, _], [])) (h' := (T, S)) rfl ?_
    exact t_M_sendWhatMay_17 scr l0 l1 l2 ((S cM_gone l0 (ix l1)) + (1 : Int32)) S T _ _ _ _ _ _ hx hG
  · rw [if_neg hc] at hx
    obtain ⟨x, hy, rfl⟩ := exW_some hx
    replace hx := hy
    simp only [Sum.elim_inr] at hG
    cases hx
    subst hG
    exact ev_ret rfl rfl
set_option maxRecDepth 100000 in
theorem t_M_sendWhatMay_2 (scr : Nat × (Nat → Int32)) (l0 : Nat) (l1 : Int32) (l2 : Int32) (S : St) (T : St) (d3 d4 d5 d6 d7 d8 d9 : Option iV) {x : St} {o : Option iV × SS} (hx : f_M_sendWhatMay_2 l0 l1 (l2, S) = some x) (hG : (fun x => (none, (T, x)) = o) x) : EB scr 1 1 0 cd_M_sendWhatMay (2, [some (vR 1 l0), some (vI l1), some (vI l2), d3, d4, d5, d6, d7, d8, d9], []) (T, S) o := by
  exact iter_ind (P := fun q => ∀ d3 d4 d5 d6 d7 d8 d9 : Option iV, EB scr 1 1 0 cd_M_sendWhatMay (2, [some (vR 1 l0), some (vI l1), some (vI q.1), d3, d4, d5, d6, d7, d8, d9], []) (T, q.2) o) (G := fun x => (none, (T, x)) = o) (fun q x hb hP d3 d4 d5 d6 d7 d8 d9 => t_M_sendWhatMay_2_b scr l0 l1 q.1 q.2 T d3 d4 d5 d6 d7 d8 d9 hb hP) hx hG d3 d4 d5 d6 d7 d8 d9
def f_M_sendWhatMay (u : Nat) (a1 : Int32) (S : St) : Option (St) :=
  f_M_sendWhatMay_2 u a1 ((0 : Int32), S)
set_option maxRecDepth 100000 in
theorem t_M_sendWhatMay (scr : Nat × (Nat → Int32)) (u : Nat) (a1 : Int32) (S T : St) {x : St} {o : Option iV × SS} (hx : f_M_sendWhatMay u a1 S = some x) (hG : (none, (T, x)) = o) : E0 scr 2 54 [vR 1 u, vI a1] (T, S) o := by
  refine ev_meth (ls := [some (vR 1 u), some (vI a1), none, none, none, none, none, none, none, none]) rfl rfl rfl ?_
  unfold f_M_sendWhatMay at hx
  refine ev_steps 2 (c' := (2, [some (vR 1 u), some (vI a1), some (vI (0 : Int32)), none, none, none, none, none, none, none], [])) (h' := (T, S)) rfl ?_
  exact t_M_sendWhatMay_2 scr u a1 (0 : Int32) S T _ _ _ _ _ _ _ hx hG
