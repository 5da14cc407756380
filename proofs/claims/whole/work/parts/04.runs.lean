/-! Running methods: fuel for steps, depth for calls. -/
def iInv : iI → Option Nat
  | .invokevirtual k => some k
  | .invokespecial k => some k
  | .invokestatic k => some k
  | _ => none
def iIsB (x : Int32) : Bool := decide (x = 0) || decide (x = 1)
/-- kinds of answers: 0 none, 1 int, 2 boolean, 3 reference -/
def iRet (rk : Nat) (i : iI) (st : List iV) : Option (Option iV) := match i with
  | .return_ => match rk, st with
    | 0, [] => some none
    | _, _ => none
  | .ireturn => match rk, st with
    | 1, [Sum.inl x] => some (some (vI x))
    | 2, [Sum.inl x] => match iIsB x with
      | true => some (some (vI x))
      | false => none
    | _, _ => none
  | .areturn => match rk, st with
    | 3, [Sum.inr (Sum.inr (Sum.inl (some (t, j))))] => some (some (vR t j))
    | _, _ => none
  | _ => none
def iOkS : List iV → Nat → Bool
  | [], _ => true
  | _ :: _, 0 => false
  | v :: r, n + 1 => iCat1 v && iOkS r n
def iEntry : List iV → Nat → Option iL
  | [], n => some (List.replicate n none)
  | _ :: _, 0 => none
  | v :: r, n + 1 => match iCat1 v with
    | false => none
    | true => match iEntry r n with
      | none => none
      | some ls => some (some v :: ls)
/-- the receiver of a method that is not static is of its class -/
def iRcv (sf own : Nat) (as : List iV) : Bool := match sf with
  | 0 => match as with
    | Sum.inr (Sum.inr (Sum.inl (some (t, _)))) :: _ => Nat.beq t own
    | _ => false
  | _ => true
section iRunS
variable {Hp : Type} (hop : Nat → iI → List iV → Hp → Option (List iV × Hp)) (tg : Nat → Nat → Option (Nat × Nat)) (mth : Nat → Option (Nat × Nat × Nat × Nat × List iE))
def iOne (call : Nat → List iV → Hp → Option (Option iV × Hp)) (own : Nat) (i : iI) (ts : iX) (c : iC) (h : Hp) : Option (iC × Hp) := match iStp i ts c with
  | some c' => some (c', h)
  | none => match hop own i c.2.2 h with
    | some (st', h') => some ((c.1 + iLen i, c.2.1, st'), h')
    | none => match iInv i with
      | none => none
      | some k => match tg own k with
        | none => none
        | some (j, n) => match iOkS (c.2.2.drop n) 8 && Nat.ble n c.2.2.length with
          | false => none
          | true => match call j (c.2.2.take n).reverse h with
            | none => none
            | some (r, h') => some ((c.1 + 3, c.2.1, r.toList ++ c.2.2.drop n), h')
def iRun (call : Nat → List iV → Hp → Option (Option iV × Hp)) (own rk : Nat) (cd : List iE) : Nat → iC → Hp → Option (Option iV × Hp)
  | 0, _, _ => none
  | f + 1, c, h => match iLk cd c.1 with
    | none => none
    | some (i, _, ts) => match iRet rk i c.2.2 with
      | some r => some (r, h)
      | none => match iOne hop tg call own i ts c h with
        | none => none
        | some (c', h') => iRun call own rk cd f c' h'
def iMet (F : Nat) : Nat → Nat → List iV → Hp → Option (Option iV × Hp)
  | 0, _, _, _ => none
  | d + 1, j, as, h => match j with
    | 0 => match as with
      | [Sum.inr (Sum.inr (Sum.inl (some _)))] => some (none, h)
      | _ => none
    | k + 1 => match mth (k + 1) with
      | none => none
      | some (own, rk, nL, sf, cd) => match iRcv sf own as with
        | false => none
        | true => match iEntry as nL with
          | none => none
          | some ls => iRun hop tg (iMet F d) own rk cd F (0, ls, []) h
/-- some steps without a call -/
def iSteps (own rk : Nat) (cd : List iE) : Nat → iC → Hp → Option (iC × Hp)
  | 0, c, h => some (c, h)
  | k + 1, c, h => match iLk cd c.1 with
    | none => none
    | some (i, _, ts) => match iRet rk i c.2.2 with
      | some _ => none
      | none => match iOne hop tg (fun _ _ _ => none) own i ts c h with
        | none => none
        | some (c', h') => iSteps own rk cd k c' h'
def Ev (d j : Nat) (as : List iV) (h : Hp) (o : Option iV × Hp) : Prop := ∃ F, iMet hop tg mth F d j as h = some o
def EvB (d own rk : Nat) (cd : List iE) (c : iC) (h : Hp) (o : Option iV × Hp) : Prop := ∃ F f, iRun hop tg (iMet hop tg mth F d) own rk cd f c h = some o
variable {hop tg mth}
theorem iOne_mono {call call' : Nat → List iV → Hp → Option (Option iV × Hp)} (hc : ∀ j as h o, call j as h = some o → call' j as h = some o) {own : Nat} {i : iI} {ts : iX} {c : iC} {h : Hp} {o : iC × Hp} (hh : iOne hop tg call own i ts c h = some o) : iOne hop tg call' own i ts c h = some o := by
  unfold iOne at hh ⊢
  split
  · rename_i q; rw [q] at hh; exact hh
  · rename_i q1; rw [q1] at hh; dsimp only at hh
    split
    · rename_i q; rw [q] at hh; exact hh
    · rename_i q2; rw [q2] at hh; dsimp only at hh
      split
      · rename_i q; rw [q] at hh; exact hh
      · rename_i q3; rw [q3] at hh; dsimp only at hh
        split
        · rename_i q; rw [q] at hh; exact hh
        · rename_i q4; rw [q4] at hh; dsimp only at hh
          split
          · rename_i q; rw [q] at hh; exact hh
          · rename_i q5; rw [q5] at hh; dsimp only at hh
            split at hh
            · cases hh
            · rename_i q6
              rw [hc _ _ _ _ q6]
              exact hh
theorem iRun_mono {call call' : Nat → List iV → Hp → Option (Option iV × Hp)} (hc : ∀ j as h o, call j as h = some o → call' j as h = some o) {own rk : Nat} {cd : List iE} {f : Nat} : ∀ {f' : Nat} {c : iC} {h : Hp} {o : Option iV × Hp}, f ≤ f' → iRun hop tg call own rk cd f c h = some o → iRun hop tg call' own rk cd f' c h = some o := by
  induction f with
  | zero => intro f' c h o _ hh; cases hh
  | succ f ih =>
    intro f' c h o hf hh
    obtain ⟨g, rfl⟩ : ∃ g, f' = g + 1 := ⟨f' - 1, by omega⟩
    unfold iRun at hh ⊢
    split
    · rename_i q; rw [q] at hh; cases hh
    · rename_i q; rw [q] at hh; dsimp only at hh
      split
      · rename_i q2; rw [q2] at hh; exact hh
      · rename_i q2; rw [q2] at hh; dsimp only at hh
        split at hh
        · cases hh
        · rename_i q3
          rw [iOne_mono hc q3]
          exact ih (by omega) hh
theorem iMet_monoF {F F' : Nat} (hF : F ≤ F') {d : Nat} : ∀ {j : Nat} {as : List iV} {h : Hp} {o : Option iV × Hp}, iMet hop tg mth F d j as h = some o → iMet hop tg mth F' d j as h = some o := by
  induction d with
  | zero => intro j as h o hh; cases hh
  | succ d ih =>
    intro j as h o hh
    unfold iMet at hh ⊢
    split
    · exact hh
    · dsimp only at hh
      split
      · rename_i q; rw [q] at hh; cases hh
      · rename_i q; rw [q] at hh; dsimp only at hh
        split
        · rename_i q2; rw [q2] at hh; cases hh
        · rename_i q2; rw [q2] at hh; dsimp only at hh
          split
          · rename_i q3; rw [q3] at hh; cases hh
          · rename_i q3; rw [q3] at hh; dsimp only at hh
            exact iRun_mono (fun j as h o => ih) hF hh
theorem iMet_monoD {F : Nat} {d : Nat} : ∀ {d' j : Nat} {as : List iV} {h : Hp} {o : Option iV × Hp}, d ≤ d' → iMet hop tg mth F d j as h = some o → iMet hop tg mth F d' j as h = some o := by
  induction d with
  | zero => intro d' j as h o _ hh; cases hh
  | succ d ih =>
    intro d' j as h o hd hh
    obtain ⟨g, rfl⟩ : ∃ g, d' = g + 1 := ⟨d' - 1, by omega⟩
    unfold iMet at hh ⊢
    split
    · exact hh
    · dsimp only at hh
      split
      · rename_i q; rw [q] at hh; cases hh
      · rename_i q; rw [q] at hh; dsimp only at hh
        split
        · rename_i q2; rw [q2] at hh; cases hh
        · rename_i q2; rw [q2] at hh; dsimp only at hh
          split
          · rename_i q3; rw [q3] at hh; cases hh
          · rename_i q3; rw [q3] at hh; dsimp only at hh
            exact iRun_mono (fun j as h o => ih (by omega)) (Nat.le_refl _) hh
theorem Ev.mono {d d' j : Nat} {as : List iV} {h : Hp} {o : Option iV × Hp} (hE : Ev hop tg mth d j as h o) (hd : d ≤ d') : Ev hop tg mth d' j as h o := by
  obtain ⟨F, hF⟩ := hE
  exact ⟨F, iMet_monoD hd hF⟩
theorem ev_meth {d j : Nat} {own rk nL sf : Nat} {cd : List iE} {as : List iV} {ls : iL} {h : Hp} {o : Option iV × Hp} (hj : mth (j + 1) = some (own, rk, nL, sf, cd)) (hs : iRcv sf own as = true) (he : iEntry as nL = some ls) (hB : EvB hop tg mth d own rk cd (0, ls, []) h o) : Ev hop tg mth (d + 1) (j + 1) as h o := by
  obtain ⟨F, f, hr⟩ := hB
  refine ⟨F + f, ?_⟩
  unfold iMet
  dsimp only
  rw [hj]
  dsimp only
  rw [hs]
  dsimp only
  rw [he]
  exact iRun_mono (fun j as h o => iMet_monoF (by omega)) (by omega) hr
section iRules
variable {d own rk : Nat} {cd : List iE} {pc : Nat} {ls : iL} {st : List iV} {h h' : Hp} {o : Option iV × Hp}
theorem ev_one {c c' : iC} {i : iI} {n : Nat} {ts : iX} (hl : iLk cd c.1 = some (i, n, ts)) (hr : iRet rk i c.2.2 = none) (h1 : iOne hop tg (fun _ _ _ => none) own i ts c h = some (c', h')) (hB : EvB hop tg mth d own rk cd c' h' o) : EvB hop tg mth d own rk cd c h o := by
  obtain ⟨F, f, hh⟩ := hB
  refine ⟨F, f + 1, ?_⟩
  unfold iRun
  rw [hl]
  dsimp only
  rw [hr]
  dsimp only
  rw [iOne_mono (call' := iMet hop tg mth F d) (fun j as h o hc => by cases hc) h1]
  exact hh
theorem ev_steps (k : Nat) {c c' : iC} (hs : iSteps hop tg own rk cd k c h = some (c', h')) (hB : EvB hop tg mth d own rk cd c' h' o) : EvB hop tg mth d own rk cd c h o := by
  induction k generalizing c h with
  | zero => cases hs; exact hB
  | succ k ih =>
    unfold iSteps at hs
    split at hs
    · cases hs
    · rename_i q
      split at hs
      · cases hs
      · rename_i q2
        split at hs
        · cases hs
        · rename_i q3
          exact ev_one q q2 q3 (ih hs)
theorem ev_ret {i : iI} {n : Nat} {ts : iX} {r : Option iV} (hl : iLk cd pc = some (i, n, ts)) (hr : iRet rk i st = some r) : EvB hop tg mth d own rk cd (pc, ls, st) h (r, h) := by
  refine ⟨0, 1, ?_⟩
  unfold iRun
  dsimp only
  rw [hl]
  dsimp only
  rw [hr]
theorem ev_call {i : iI} {n k j nn : Nat} {ts : iX} {r : Option iV} {as : List iV} {rest : List iV} (hl : iLk cd pc = some (i, nn, ts)) (hr : iRet rk i st = none) (h1 : iStp i ts (pc, ls, st) = none) (h2 : hop own i st h = none) (h3 : iInv i = some k) (h4 : tg own k = some (j, n)) (h5 : (iOkS (st.drop n) 8 && Nat.ble n st.length) = true)
    (ha : (st.take n).reverse = as) (hd : r.toList ++ st.drop n = rest) (hE : Ev hop tg mth d j as h (r, h')) (hB : EvB hop tg mth d own rk cd (pc + 3, ls, rest) h' o) : EvB hop tg mth d own rk cd (pc, ls, st) h o := by
  obtain ⟨F, f, hh⟩ := hB
  obtain ⟨F2, hE⟩ := hE
  subst ha; subst hd
  refine ⟨F + F2, f + 1, ?_⟩
  unfold iRun
  dsimp only
  rw [hl]
  dsimp only
  rw [hr]
  dsimp only
  have e1 : iOne hop tg (iMet hop tg mth (F + F2) d) own i ts (pc, ls, st) h = some ((pc + 3, ls, r.toList ++ st.drop n), h') := by
    unfold iOne
    rw [h1]
    dsimp only
    rw [h2]
    dsimp only
    rw [h3]
    dsimp only
    rw [h4]
    dsimp only
    rw [h5]
    dsimp only
    rw [iMet_monoF (Nat.le_add_left F2 F) hE]
  rw [e1]
  exact iRun_mono (fun j as h o => iMet_monoF (by omega)) (Nat.le_refl _) hh
theorem ev_stp {c c' : iC} {i : iI} {n : Nat} {ts : iX} (hl : iLk cd c.1 = some (i, n, ts)) (hr : iRet rk i c.2.2 = none) (h1 : iStp i ts c = some c') (hB : EvB hop tg mth d own rk cd c' h o) : EvB hop tg mth d own rk cd c h o :=
  ev_one hl hr (by unfold iOne; rw [h1]) hB
variable {a b x : Int32} {off : Int} {n t : Nat}
theorem ev_icmp {k : Jvm.ClassFile.Cond} (hl : iLk cd pc = some (.if_icmp k off, n, [t], x)) (hT : iCmp k a b = true → EvB hop tg mth d own rk cd (t, ls, st) h o) (hF : iCmp k a b = false → EvB hop tg mth d own rk cd (pc + 3, ls, st) h o) : EvB hop tg mth d own rk cd (pc, ls, vI b :: vI a :: st) h o := by
  cases hc : iCmp k a b with
  | true => exact ev_stp (c' := (t, ls, st)) hl rfl (by simp only [iStp, iBr2, hc]) (hT hc)
  | false => exact ev_stp (c' := (pc + 3, ls, st)) hl rfl (by simp only [iStp, iBr2, hc]) (hF hc)
theorem ev_ifc {k : Jvm.ClassFile.Cond} (hl : iLk cd pc = some (.ifCond k off, n, [t], x)) (hT : iCmp k a 0 = true → EvB hop tg mth d own rk cd (t, ls, st) h o) (hF : iCmp k a 0 = false → EvB hop tg mth d own rk cd (pc + 3, ls, st) h o) : EvB hop tg mth d own rk cd (pc, ls, vI a :: st) h o := by
  cases hc : iCmp k a 0 with
  | true => exact ev_stp (c' := (t, ls, st)) hl rfl (by simp only [iStp, iBr1, hc]) (hT hc)
  | false => exact ev_stp (c' := (pc + 3, ls, st)) hl rfl (by simp only [iStp, iBr1, hc]) (hF hc)
theorem ev_icmp_eq (hl : iLk cd pc = some (.if_icmp .eq off, n, [t], x)) (hP : a = b → EvB hop tg mth d own rk cd (t, ls, st) h o) (hN : ¬ a = b → EvB hop tg mth d own rk cd (pc + 3, ls, st) h o) : EvB hop tg mth d own rk cd (pc, ls, vI b :: vI a :: st) h o :=
  ev_icmp hl (fun q => hP (of_decide_eq_true q)) (fun q => hN (of_decide_eq_false q))
theorem ev_if_eq (hl : iLk cd pc = some (.ifCond .eq off, n, [t], x)) (hP : a = 0 → EvB hop tg mth d own rk cd (t, ls, st) h o) (hN : ¬ a = 0 → EvB hop tg mth d own rk cd (pc + 3, ls, st) h o) : EvB hop tg mth d own rk cd (pc, ls, vI a :: st) h o :=
  ev_ifc hl (fun q => hP (of_decide_eq_true q)) (fun q => hN (of_decide_eq_false q))
theorem ev_icmp_ne (hl : iLk cd pc = some (.if_icmp .ne off, n, [t], x)) (hP : a = b → EvB hop tg mth d own rk cd (pc + 3, ls, st) h o) (hN : ¬ a = b → EvB hop tg mth d own rk cd (t, ls, st) h o) : EvB hop tg mth d own rk cd (pc, ls, vI b :: vI a :: st) h o :=
  ev_icmp hl (fun q => hN (of_decide_eq_false (by simpa [iCmp] using q))) (fun q => hP (of_decide_eq_true (by simpa [iCmp] using q)))
theorem ev_if_ne (hl : iLk cd pc = some (.ifCond .ne off, n, [t], x)) (hP : a = 0 → EvB hop tg mth d own rk cd (pc + 3, ls, st) h o) (hN : ¬ a = 0 → EvB hop tg mth d own rk cd (t, ls, st) h o) : EvB hop tg mth d own rk cd (pc, ls, vI a :: st) h o :=
  ev_ifc hl (fun q => hN (of_decide_eq_false (by simpa [iCmp] using q))) (fun q => hP (of_decide_eq_true (by simpa [iCmp] using q)))
theorem ev_icmp_lt (hl : iLk cd pc = some (.if_icmp .lt off, n, [t], x)) (hP : a < b → EvB hop tg mth d own rk cd (t, ls, st) h o) (hN : ¬ a < b → EvB hop tg mth d own rk cd (pc + 3, ls, st) h o) : EvB hop tg mth d own rk cd (pc, ls, vI b :: vI a :: st) h o :=
  ev_icmp hl (fun q => hP (of_decide_eq_true q)) (fun q => hN (of_decide_eq_false q))
theorem ev_if_lt (hl : iLk cd pc = some (.ifCond .lt off, n, [t], x)) (hP : a < 0 → EvB hop tg mth d own rk cd (t, ls, st) h o) (hN : ¬ a < 0 → EvB hop tg mth d own rk cd (pc + 3, ls, st) h o) : EvB hop tg mth d own rk cd (pc, ls, vI a :: st) h o :=
  ev_ifc hl (fun q => hP (of_decide_eq_true q)) (fun q => hN (of_decide_eq_false q))
theorem ev_icmp_ge (hl : iLk cd pc = some (.if_icmp .ge off, n, [t], x)) (hP : a < b → EvB hop tg mth d own rk cd (pc + 3, ls, st) h o) (hN : ¬ a < b → EvB hop tg mth d own rk cd (t, ls, st) h o) : EvB hop tg mth d own rk cd (pc, ls, vI b :: vI a :: st) h o :=
  ev_icmp hl (fun q => hN (of_decide_eq_false (by simpa [iCmp] using q))) (fun q => hP (of_decide_eq_true (by simpa [iCmp] using q)))
theorem ev_if_ge (hl : iLk cd pc = some (.ifCond .ge off, n, [t], x)) (hP : a < 0 → EvB hop tg mth d own rk cd (pc + 3, ls, st) h o) (hN : ¬ a < 0 → EvB hop tg mth d own rk cd (t, ls, st) h o) : EvB hop tg mth d own rk cd (pc, ls, vI a :: st) h o :=
  ev_ifc hl (fun q => hN (of_decide_eq_false (by simpa [iCmp] using q))) (fun q => hP (of_decide_eq_true (by simpa [iCmp] using q)))
theorem ev_icmp_gt (hl : iLk cd pc = some (.if_icmp .gt off, n, [t], x)) (hP : b < a → EvB hop tg mth d own rk cd (t, ls, st) h o) (hN : ¬ b < a → EvB hop tg mth d own rk cd (pc + 3, ls, st) h o) : EvB hop tg mth d own rk cd (pc, ls, vI b :: vI a :: st) h o :=
  ev_icmp hl (fun q => hP (of_decide_eq_true q)) (fun q => hN (of_decide_eq_false q))
theorem ev_if_gt (hl : iLk cd pc = some (.ifCond .gt off, n, [t], x)) (hP : 0 < a → EvB hop tg mth d own rk cd (t, ls, st) h o) (hN : ¬ 0 < a → EvB hop tg mth d own rk cd (pc + 3, ls, st) h o) : EvB hop tg mth d own rk cd (pc, ls, vI a :: st) h o :=
  ev_ifc hl (fun q => hP (of_decide_eq_true q)) (fun q => hN (of_decide_eq_false q))
theorem ev_icmp_le (hl : iLk cd pc = some (.if_icmp .le off, n, [t], x)) (hP : b < a → EvB hop tg mth d own rk cd (pc + 3, ls, st) h o) (hN : ¬ b < a → EvB hop tg mth d own rk cd (t, ls, st) h o) : EvB hop tg mth d own rk cd (pc, ls, vI b :: vI a :: st) h o :=
  ev_icmp hl (fun q => hN (of_decide_eq_false (by simpa [iCmp] using q))) (fun q => hP (of_decide_eq_true (by simpa [iCmp] using q)))
theorem ev_if_le (hl : iLk cd pc = some (.ifCond .le off, n, [t], x)) (hP : 0 < a → EvB hop tg mth d own rk cd (pc + 3, ls, st) h o) (hN : ¬ 0 < a → EvB hop tg mth d own rk cd (t, ls, st) h o) : EvB hop tg mth d own rk cd (pc, ls, vI a :: st) h o :=
  ev_ifc hl (fun q => hN (of_decide_eq_false (by simpa [iCmp] using q))) (fun q => hP (of_decide_eq_true (by simpa [iCmp] using q)))
end iRules
end iRunS
