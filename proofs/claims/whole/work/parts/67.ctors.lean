/-! The two constructors and the law's cell as contracts. -/
def rhS (r li k : Int32) : Nat → Int32
  | 0 => f_Math_max 2 (f_Math_min 16 r)
  | 1 => f_Math_max 2 (f_Math_min 9 li)
  | 2 => k
  | 3 => r
  | _ => li
theorem clamp1 {hi r : Int32} (h2 : (2 : Int32) < hi) (h : r < 2) : f_Math_max 2 (f_Math_min hi r) = 2 := by
  unfold f_Math_max f_Math_min
  have h3 : r < hi := by
    rw [Int32.lt_iff_toInt_lt] at *
    omega
  have h4 : ¬ (2 : Int32) < r := by
    rw [Int32.lt_iff_toInt_lt] at *
    omega
  rw [if_pos h3, if_neg h4]
theorem clamp2 {hi r : Int32} (h2 : (2 : Int32) < hi) (h : hi < r) : f_Math_max 2 (f_Math_min hi r) = hi := by
  unfold f_Math_max f_Math_min
  have h3 : ¬ r < hi := by
    rw [Int32.lt_iff_toInt_lt] at *
    omega
  rw [if_neg h3, if_pos h2]
theorem clamp3 {hi r : Int32} (h2 : (2 : Int32) < hi) (h : ¬ r < 2) (h' : ¬ hi < r) : f_Math_max 2 (f_Math_min hi r) = r := by
  unfold f_Math_max f_Math_min
  by_cases h3 : r < hi
  · rw [if_pos h3]
    by_cases h4 : (2 : Int32) < r
    · rw [if_pos h4]
    · rw [if_neg h4]
      apply Int32.toInt_inj.mp
      rw [Int32.lt_iff_toInt_lt] at *
      omega
  · rw [if_neg h3, if_pos h2]
    apply Int32.toInt_inj.mp
    rw [Int32.lt_iff_toInt_lt] at *
    omega
theorem le_L {scr : Nat × (Nat → Int32)} : leA [(0, dfA 0)] hC1 := leA_run (scr := (0, fun _ => 0)) (fun j as h o hh => leA_met hh) (iRun_B (fun j as h o => metB_A (scr := (0, fun _ => 0))) run_L)
section aCt
variable {D : va_G} {ca : Nat → ClassId} {base bs : Nat} {scr : Nat × (Nat → Int32)}
set_option maxRecDepth 100000 in
set_option maxHeartbeats 2000000 in
theorem ct_L (l : Launch) (hbs : bs < base) (r li k : Int32) : csA l D ca (rhS r li k) base bs scr (coneA 1 [vR 0 0, vI r, vI li, vI k] [(0, dfA 0)] (none, hC1)) 8 := by
  have hle : leA [(0, dfA 0)] hC1 := le_L (scr := scr)
  refine csA_one (j := 1) (own := 0) (rk := 0) (nL := 7) (sf := 0) (cd := cd_L_new) rfl rfl (by decide) rfl rfl hle ?_
  refine so_metG l hbs (d := 7) (j := 1) (own := 0) (rk := 0) (nL := 7) (sf := 0) (cd := cd_L_new) (ls := [some (vR 0 0), some (vI r), some (vI li), some (vI k), none, none, none]) rfl rfl rfl (fun P hP => ?_)
  obtain ⟨go, run, sw⟩ := hP
  refine go (fun _ _ _ => none) 1 _ _ (1, [some (vR 0 0), some (vI r), some (vI li), some (vI k), none, none, none], [vR 0 0]) _ csA_none hle rfl ?_
  refine go (coneA 0 [vR 0 0] [(0, dfA 0)] (none, [(0, dfA 0)])) 1 _ _ (4, [some (vR 0 0), some (vI r), some (vI li), some (vI k), none, none, none], []) _ csA_obj hle (go_call rfl rfl rfl rfl rfl rfl rfl rfl rfl coneA_at) ?_
  refine go (fun _ _ _ => none) 3 _ _ (8, [some (vR 0 0), some (vI r), some (vI li), some (vI k), none, none, none], [vI r, vI 16, vI 2]) _ csA_none hle rfl ?_
  refine go (coneA 159 [vI 16, vI r] [(0, dfA 0)] (some (vI (f_Math_min 16 r)), [(0, dfA 0)])) 1 _ _ (11, [some (vR 0 0), some (vI r), some (vI li), some (vI k), none, none, none], [vI (f_Math_min 16 r), vI 2]) _ (mt_min (d := 6) l hbs _ _ _) hle (go_call rfl rfl rfl rfl rfl rfl rfl rfl rfl coneA_at) ?_
  refine go (coneA 158 [vI 2, vI (f_Math_min 16 r)] [(0, dfA 0)] (some (vI (f_Math_max 2 (f_Math_min 16 r))), [(0, dfA 0)])) 1 _ _ (14, [some (vR 0 0), some (vI r), some (vI li), some (vI k), none, none, none], [vI (f_Math_max 2 (f_Math_min 16 r))]) _ (mt_max (d := 6) l hbs _ _ _) hle (go_call rfl rfl rfl rfl rfl rfl rfl rfl rfl coneA_at) ?_
  refine go (fun _ _ _ => none) 4 _ _ (20, [some (vR 0 0), some (vI r), some (vI li), some (vI k), some (vI (f_Math_max 2 (f_Math_min 16 r))), none, none], [vI li, vI 9, vI 2]) _ csA_none hle rfl ?_
  refine go (coneA 159 [vI 9, vI li] [(0, dfA 0)] (some (vI (f_Math_min 9 li)), [(0, dfA 0)])) 1 _ _ (23, [some (vR 0 0), some (vI r), some (vI li), some (vI k), some (vI (f_Math_max 2 (f_Math_min 16 r))), none, none], [vI (f_Math_min 9 li), vI 2]) _ (mt_min (d := 6) l hbs _ _ _) hle (go_call rfl rfl rfl rfl rfl rfl rfl rfl rfl coneA_at) ?_
  refine go (coneA 158 [vI 2, vI (f_Math_min 9 li)] [(0, dfA 0)] (some (vI (f_Math_max 2 (f_Math_min 9 li))), [(0, dfA 0)])) 1 _ _ (26, [some (vR 0 0), some (vI r), some (vI li), some (vI k), some (vI (f_Math_max 2 (f_Math_min 16 r))), none, none], [vI (f_Math_max 2 (f_Math_min 9 li))]) _ (mt_max (d := 6) l hbs _ _ _) hle (go_call rfl rfl rfl rfl rfl rfl rfl rfl rfl coneA_at) ?_
  refine go (fun _ _ _ => none) 1 _ _ (28, [some (vR 0 0), some (vI r), some (vI li), some (vI k), some (vI (f_Math_max 2 (f_Math_min 16 r))), some (vI (f_Math_max 2 (f_Math_min 9 li))), none], []) _ csA_none hle rfl ?_
  refine sw 28 _ kC1.2.1 _ [] _ rfl ⟨rfl, trivial, trivial, rfl, rfl, rfl, trivial, trivial⟩ ?_
  exact run (metA scr 2000 7) 2000 kC1 _ (so_metA l hbs 2000 7) (iRun_B (fun j as h o => metB_A) run_L)
theorem le_M1 : leA (hC1 ++ [(1, dfA 1)]) hM1 := leA_go (scr := (0, fun _ => 0)) (fun j as h o hh => leA_met hh) (iGo_B (fun j as h o => metB_A (scr := (0, fun _ => 0))) run_M1)
theorem le_M2 : leA hM1 hM2 := leA_go (scr := (0, fun _ => 0)) (fun j as h o hh => leA_met hh) (iGo_B (fun j as h o => metB_A (scr := (0, fun _ => 0))) run_M2)
theorem le_M3 : leA hM2 hM3 := leA_run (scr := (0, fun _ => 0)) (fun j as h o hh => leA_met hh) (iRun_B (fun j as h o => metB_A (scr := (0, fun _ => 0))) run_M3)
set_option maxRecDepth 100000 in
theorem rcv_M0 : rcvA [vR 1 314] (hC1 ++ [(1, dfA 1)]) = true := by decide +kernel
theorem rcv_M {a : List iV} : rcvA (vR 1 314 :: a) (hC1 ++ [(1, dfA 1)]) = true := rcv_M0
set_option maxRecDepth 100000 in
set_option maxHeartbeats 2000000 in
theorem ct_M (l : Launch) (hbs : bs < base) (r li k : Int32) : csA l D ca (rhS r li k) base bs scr (coneA 28 [vR 1 314, vI r, vI li, vI k] (hC1 ++ [(1, dfA 1)]) (none, hM3)) 2 := by
  have hle : leA (hC1 ++ [(1, dfA 1)]) hM3 := le_M1.tr (le_M2.tr le_M3)
  have hl1 : leA hM1 hM3 := le_M2.tr le_M3
  refine csA_one (j := 28) (own := 1) (rk := 0) (nL := 4) (sf := 0) (cd := cd_M_new) rfl rfl (by decide) rfl rcv_M hle ?_
  refine so_metG l hbs (d := 1) (j := 28) (own := 1) (rk := 0) (nL := 4) (sf := 0) (cd := cd_M_new) (ls := [some (vR 1 314), some (vI r), some (vI li), some (vI k)]) rfl rfl rfl (fun P hP => ?_)
  obtain ⟨go, run, sw⟩ := hP
  refine sw 0 _ lsM0 _ [] _ rfl ⟨rfl, rfl, rfl, rfl, trivial⟩ ?_
  refine go (metA scr 2000 1) 194 _ _ (374, lsM0, []) hM1 (so_metA l hbs 2000 1) hl1 (iGo_B (fun j as h o => metB_A) run_M1) ?_
  refine sw 374 _ [some (vR 1 314), some (vI r), some (vI li), some (vI k)] _ [] _ rfl ⟨rfl, rfl, rfl, rfl, trivial⟩ ?_
  refine go (fun _ _ _ => none) 3 _ _ (377, [some (vR 1 314), some (vI r), some (vI li), some (vI k)], [vI 2, vI r, vR 1 314]) hM1 csA_none hl1 rfl ?_
  have e2 : P (396, [some (vR 1 314), some (vI r), some (vI li), some (vI k)], [vI (f_Math_max 2 (f_Math_min 16 r)), vR 1 314]) hM1 := by
    refine sw 396 _ lsM0 _ [vX 0, vR 1 314] _ rfl ⟨rfl, rfl, rfl, rfl, trivial⟩ ?_
    refine go (metA scr 2000 1) 1 _ _ (399, lsM0, []) hM2 (so_metA l hbs 2000 1) le_M3 (iGo_B (fun j as h o => metB_A) run_M2) ?_
    refine sw 399 _ [some (vR 1 314), some (vI r), some (vI li), some (vI k)] _ [] _ rfl ⟨rfl, rfl, rfl, rfl, trivial⟩ ?_
    refine go (fun _ _ _ => none) 3 _ _ (402, [some (vR 1 314), some (vI r), some (vI li), some (vI k)], [vI 2, vI li, vR 1 314]) hM2 csA_none le_M3 rfl ?_
    have e3 : P (421, [some (vR 1 314), some (vI r), some (vI li), some (vI k)], [vI (f_Math_max 2 (f_Math_min 9 li)), vR 1 314]) hM2 := by
      refine sw 421 _ lsM0 _ [vX 1, vR 1 314] _ rfl ⟨rfl, rfl, rfl, rfl, trivial⟩ ?_
      exact run (metA scr 2000 1) 10 _ _ (so_metA l hbs 2000 1) (iRun_B (fun j as h o => metB_A) run_M3)
    by_cases h1 : li < 2
    · refine go (fun _ _ _ => none) 1 _ _ _ _ csA_none le_M3 (go_icmp (v := false) rfl (by show (!decide (li < 2)) = false; rw [decide_eq_true h1]; rfl)) ?_
      refine go (fun _ _ _ => none) 2 _ _ (421, [some (vR 1 314), some (vI r), some (vI li), some (vI k)], [vI 2, vR 1 314]) hM2 csA_none le_M3 rfl ?_
      rw [clamp1 (by decide) h1] at e3
      exact e3
    · refine go (fun _ _ _ => none) 1 _ _ _ _ csA_none le_M3 (go_icmp (v := true) rfl (by show (!decide (li < 2)) = true; rw [decide_eq_false h1]; rfl)) ?_
      refine go (fun _ _ _ => none) 2 _ _ (412, [some (vR 1 314), some (vI r), some (vI li), some (vI k)], [vI 9, vI li, vR 1 314]) hM2 csA_none le_M3 rfl ?_
      by_cases h2 : 9 < li
      · refine go (fun _ _ _ => none) 1 _ _ _ _ csA_none le_M3 (go_icmp (v := false) rfl (by show (!decide (9 < li)) = false; rw [decide_eq_true h2]; rfl)) ?_
        refine go (fun _ _ _ => none) 2 _ _ (421, [some (vR 1 314), some (vI r), some (vI li), some (vI k)], [vI 9, vR 1 314]) hM2 csA_none le_M3 rfl ?_
        rw [clamp2 (by decide) h2] at e3
        exact e3
      · refine go (fun _ _ _ => none) 1 _ _ _ _ csA_none le_M3 (go_icmp (v := true) rfl (by show (!decide (9 < li)) = true; rw [decide_eq_false h2]; rfl)) ?_
        refine go (fun _ _ _ => none) 1 _ _ (421, [some (vR 1 314), some (vI r), some (vI li), some (vI k)], [vI li, vR 1 314]) hM2 csA_none le_M3 rfl ?_
        rw [clamp3 (by decide) h1 h2] at e3
        exact e3
  by_cases h1 : r < 2
  · refine go (fun _ _ _ => none) 1 _ _ _ _ csA_none hl1 (go_icmp (v := false) rfl (by show (!decide (r < 2)) = false; rw [decide_eq_true h1]; rfl)) ?_
    refine go (fun _ _ _ => none) 2 _ _ (396, [some (vR 1 314), some (vI r), some (vI li), some (vI k)], [vI 2, vR 1 314]) hM1 csA_none hl1 rfl ?_
    rw [clamp1 (by decide) h1] at e2
    exact e2
  · refine go (fun _ _ _ => none) 1 _ _ _ _ csA_none hl1 (go_icmp (v := true) rfl (by show (!decide (r < 2)) = true; rw [decide_eq_false h1]; rfl)) ?_
    refine go (fun _ _ _ => none) 2 _ _ (387, [some (vR 1 314), some (vI r), some (vI li), some (vI k)], [vI 16, vI r, vR 1 314]) hM1 csA_none hl1 rfl ?_
    by_cases h2 : 16 < r
    · refine go (fun _ _ _ => none) 1 _ _ _ _ csA_none hl1 (go_icmp (v := false) rfl (by show (!decide (16 < r)) = false; rw [decide_eq_true h2]; rfl)) ?_
      refine go (fun _ _ _ => none) 2 _ _ (396, [some (vR 1 314), some (vI r), some (vI li), some (vI k)], [vI 16, vR 1 314]) hM1 csA_none hl1 rfl ?_
      rw [clamp2 (by decide) h2] at e2
      exact e2
    · refine go (fun _ _ _ => none) 1 _ _ _ _ csA_none hl1 (go_icmp (v := true) rfl (by show (!decide (16 < r)) = true; rw [decide_eq_false h2]; rfl)) ?_
      refine go (fun _ _ _ => none) 1 _ _ (396, [some (vR 1 314), some (vI r), some (vI li), some (vI k)], [vI r, vR 1 314]) hM1 csA_none hl1 rfl ?_
      rw [clamp3 (by decide) h1 h2] at e2
      exact e2
/-- a cell of the script, 0 beyond its end -/
def scC (scr : Nat × (Nat → Int32)) (i : Int32) : Int32 := if i < Int32.ofNat scr.1 then scr.2 (ix i) else 0
theorem ct_cell (l : Launch) (hbs : bs < base) {rho : Nat → Int32} {d : Nat} (i : Int32) (hi : i < Int32.ofNat scr.1 → inb i scr.1 = true) (h : HA) : csA l D ca rho base bs scr (coneA 156 [vR 63 0, vI i] h (some (vI (scC scr i)), h)) (d + 1) := by
  have hE : EvB (hopA scr) tgT mthT 0 13 1 cd_Law_cell (0, [some (vR 63 0), some (vI i)], []) h (some (vI (scC scr i)), h) := by
    unfold scC
    refine ev_steps 3 (c' := (3, [some (vR 63 0), some (vI i)], [vI (Int32.ofNat scr.1), vI i])) (h' := h) rfl ?_
    refine ev_icmp_ge rfl (fun hc => ?_) (fun hc => ?_)
    · rw [if_pos hc]
      refine ev_steps 2 (c' := (8, [some (vR 63 0), some (vI i)], [vI i, vR 63 0])) (h' := h) rfl ?_
      refine ev_one (c' := (9, [some (vR 63 0), some (vI i)], [vI (scr.2 (ix i))])) (i := .iaload) (n := 1) (ts := ([], 0)) (h' := h) rfl rfl ?_ ?_
      · have e1 : hopA scr 13 .iaload [vI i, vR 63 0] h = some ([vI (scr.2 (ix i))], h) := by
          show (match Nat.beq 63 63 && inb i scr.1 with | true => some ([vI (scr.2 (ix i))], h) | false => none) = _
          rw [hi hc]
          rfl
        unfold iOne
        rw [show iStp .iaload ([], 0) (8, [some (vR 63 0), some (vI i)], [vI i, vR 63 0]) = none from rfl]
        dsimp only
        rw [e1]
        rfl
      · refine ev_steps 1 (c' := (13, [some (vR 63 0), some (vI i)], [vI (scr.2 (ix i))])) (h' := h) rfl ?_
        exact ev_ret rfl rfl
    · rw [if_neg hc]
      refine ev_steps 1 (c' := (13, [some (vR 63 0), some (vI i)], [vI 0])) (h' := h) rfl ?_
      exact ev_ret rfl rfl
  obtain ⟨F, f, hr⟩ := hE
  exact csA_one (j := 156) (own := 13) (rk := 1) (nL := 2) (sf := 1) (cd := cd_Law_cell) rfl rfl (by decide) rfl rfl leA.rf (so_metA1 l hbs csA_iMet0 (j := 156) rfl rfl rfl hr)
end aCt
