/-! A part of a body: some steps, then whatever comes. -/
section iGoS
variable {Hp : Type} (hop : Nat → iI → List iV → Hp → Option (List iV × Hp)) (tg : Nat → Nat → Option (Nat × Nat))
def iGo (call : Nat → List iV → Hp → Option (Option iV × Hp)) (own rk : Nat) (cd : List iE) : Nat → iC → Hp → Option (iC × Hp)
  | 0, c, h => some (c, h)
  | f + 1, c, h => match iLk cd c.1 with
    | none => none
    | some (i, _, ts) => match iRet rk i c.2.2 with
      | some _ => none
      | none => match iOne hop tg call own i ts c h with
        | none => none
        | some (c', h') => iGo call own rk cd f c' h'
end iGoS
section iWalk2
variable {Hp : Type} {hop : Nat → iI → List iV → Hp → Option (List iV × Hp)} {tg : Nat → Nat → Option (Nat × Nat)} {call : Nat → List iV → Hp → Option (Option iV × Hp)}
variable {p : Program} {l : Launch} {e : Env} {R : Room} {s : State} {m : MethodId} {args : Array Value} {below : List Frame} {meth : Method} {c : Code} {Q : State → Prop}
variable {cc : ByteArray} {ad : Nat → Nat → Nat} {rho : Nat → Int32} {nL own rk : Nat} {cd : List iE} {ST : Hp → Heap → List Loc → Prop} {vk : Hp → iC → Prop} {cf : Hp → Nat × Nat} {bd : Hp → Prop}
set_option maxHeartbeats 1000000 in
/-- 'bd' is what is known of every heap on the way: it comes from the last one -/
theorem snd_go (kZ : iC) (hZ : Hp) (hx : p.tables.exec = Jvm.exec) (hb : c.code = cc)
    (hfetch : ∀ q ∈ cd, decode cc q.1 = .ok (q.2.1, q.2.2.1) ∧ iOK q = true)
    (hk1 : ∀ q ∈ cd, ∀ x, q.2.1 = .ldc x → ∃ own, s.vm.findClass own = some m.cls ∧ (Jvm.Cond.constant own x q.2.2.2.2).before args s = true) (hk2 : ∀ q ∈ cd, ∀ x, q.2.1 = .ldc2_w x → ∃ own, s.vm.findClass own = some m.cls ∧ (Jvm.Cond.constantLong own x q.2.2.2.2.toInt64).before args s = true)
    (hvk : ∀ (i : iI) (ts : iX) (k k' : iC) (h : Hp), iStp i ts k = some k' → vk h k → vk h k')
    (hhop : ∀ (i : iI) (n : Nat) (k : iC) (st' : List iV) (h h' : Hp), hop own i k.2.2 h = some (st', h') → decode cc k.1 = .ok (i, n) → (∃ tx, (k.1, i, n, tx) ∈ cd) → (iIsSw i = true ∨ n = iLen i) → vk h k → (∃ f, iGo hop tg call own rk cd f (k.1 + iLen i, k.2.1, st') h' = some (kZ, hZ)) → vk h' (k.1 + iLen i, k.2.1, st') ∧ ∀ (H : Heap) (locs : List Loc) (lsM : Array Slot), lsM.size = nL → ST h H locs →
      (∀ (H1 : Heap) (locs1 : List Loc), ST h' H1 locs1 → W p l e R s m args below meth c H1 locs1 (cf h').1 (cf h').2 Q (F0 m (k.1 + iLen i) lsM (st'.map (iTv ad rho)))) → W p l e R s m args below meth c H locs (cf h).1 (cf h).2 Q (F0 m k.1 lsM (k.2.2.map (iTv ad rho))))
    (hcall : ∀ (i : iI) (n kx j nn : Nat) (k : iC) (r : Option iV) (h h' : Hp), iInv i = some kx → tg own kx = some (j, nn) → (iOkS (k.2.2.drop nn) 8 && Nat.ble nn k.2.2.length) = true → call j (k.2.2.take nn).reverse h = some (r, h') → decode cc k.1 = .ok (i, n) → (∃ tx, (k.1, i, n, tx) ∈ cd) → (iIsSw i = true ∨ n = iLen i) → vk h k → (∃ f, iGo hop tg call own rk cd f (k.1 + 3, k.2.1, r.toList ++ k.2.2.drop nn) h' = some (kZ, hZ)) →
      ∀ (H : Heap) (locs : List Loc) (lsM : Array Slot), lsM.size = nL → ST h H locs →
      (∀ (H1 : Heap) (locs1 : List Loc), vk h' (k.1 + 3, k.2.1, r.toList ++ k.2.2.drop nn) → ST h' H1 locs1 → W p l e R s m args below meth c H1 locs1 (cf h').1 (cf h').2 Q (F0 m (k.1 + 3) lsM ((r.toList ++ k.2.2.drop nn).map (iTv ad rho)))) → W p l e R s m args below meth c H locs (cf h).1 (cf h).2 Q (F0 m k.1 lsM (k.2.2.map (iTv ad rho))))
    (hend : ∀ (H : Heap) (locs : List Loc) (lsM : Array Slot), vk hZ kZ → ST hZ H locs → iFr (iTv ad rho) kZ.2.1 lsM nL → W p l e R s m args below meth c H locs (cf hZ).1 (cf hZ).2 Q (F0 m kZ.1 lsM (kZ.2.2.map (iTv ad rho)))) :
    ∀ (f : Nat) (k : iC) (h : Hp), iGo hop tg call own rk cd f k h = some (kZ, hZ) → vk h k → ∀ (H : Heap) (locs : List Loc) (lsM : Array Slot), ST h H locs → iFr (iTv ad rho) k.2.1 lsM nL → W p l e R s m args below meth c H locs (cf h).1 (cf h).2 Q (F0 m k.1 lsM (k.2.2.map (iTv ad rho))) := by
  intro f
  induction f with
  | zero =>
    intro k h hh hv H locs lsM hS hF
    cases hh
    exact hend H locs lsM hv hS hF
  | succ f ih =>
    intro k h hh hv H locs lsM hS hF
    unfold iGo at hh
    split at hh
    · cases hh
    · rename_i i n ts hl
      obtain ⟨hd, hok⟩ := hfetch _ (iLk_mem hl)
      have hn : iIsSw i = true ∨ n = iLen i := by
        simp only [iOK, Bool.and_eq_true, Bool.or_eq_true, decide_eq_true_eq] at hok
        exact hok.1
      split at hh
      · cases hh
      · split at hh
        · cases hh
        · rename_i k' h' h1
          unfold iOne at h1
          split at h1
          · rename_i k2 hs
            cases h1
            exact snd_stp hx hb hs hd hok (hk1 _ (iLk_mem hl)) (hk2 _ (iLk_mem hl)) hF (fun lsM' hF' => ih _ _ hh (hvk _ _ _ _ _ hs hv) H locs lsM' hS hF')
          · rename_i hs
            split at h1
            · rename_i st' h2 hho
              cases h1
              obtain ⟨hv', hw⟩ := hhop i n k st' h h' hho hd ⟨_, iLk_mem hl⟩ hn hv ⟨f, hh⟩
              exact hw H locs lsM hF.1 hS (fun H1 locs1 hS1 => ih _ _ hh hv' H1 locs1 lsM hS1 hF)
            · split at h1
              · cases h1
              · rename_i kx hi
                split at h1
                · cases h1
                · rename_i j nn ht
                  split at h1
                  · cases h1
                  · rename_i hok8
                    split at h1
                    · cases h1
                    · rename_i r h2 hc
                      cases h1
                      exact hcall i n kx j nn k r h h' hi ht hok8 hc hd ⟨_, iLk_mem hl⟩ hn hv ⟨f, hh⟩ H locs lsM hF.1 hS (fun H1 locs1 hv' hS1 => ih _ _ hh hv' H1 locs1 lsM hS1 hF)
end iWalk2
/-! The growing heap never shrinks. -/
def leA (h h' : HA) : Prop := h.length ≤ h'.length ∧ nsz h ≤ nsz h'
theorem leA.rf {h : HA} : leA h h := ⟨Nat.le_refl _, Nat.le_refl _⟩
theorem leA.tr {a b c : HA} (h1 : leA a b) (h2 : leA b c) : leA a c := ⟨Nat.le_trans h1.1 h2.1, Nat.le_trans h1.2 h2.2⟩
theorem leA.app {h : HA} {c : Nat × List iV} : leA h (h ++ [c]) := ⟨by simp, by rw [nsz_app]; omega⟩
theorem leA.st {h : HA} {j : Nat} {c c' : Nat × List iV} (hj : h[j]? = some c) (hl : c'.2.length = c.2.length) : leA h (h.set j c') := ⟨by simp, by rw [nsz_set hj hl]; omega⟩
set_option maxHeartbeats 2000000 in
theorem leA_hop {scr : Nat × (Nat → Int32)} {own : Nat} {i : iI} {st st' : List iV} {h h' : HA} (hh : hopA scr own i st h = some (st', h')) : leA h h' := by
  unfold hopA at hh
  split at hh
  · unfold aGet at hh
    repeat' split at hh
    all_goals first | (cases hh; exact leA.rf) | cases hh
  · unfold aPut at hh
    split at hh
    · split at hh
      · split at hh
        · split at hh
          · rename_i hj
            split at hh
            · cases hh; exact leA.st hj (by show (List.set _ _ _).length = _; exact List.length_set)
            · cases hh
          · cases hh
        · cases hh
      · cases hh
    · cases hh
  · unfold aNew at hh
    split at hh
    · cases hh; exact leA.app
    · cases hh
  · unfold aNewA at hh
    repeat' split at hh
    all_goals first | (cases hh; exact leA.app) | cases hh
  · split at hh
    · unfold aNewP at hh
      repeat' split at hh
      all_goals first | (cases hh; exact leA.app) | cases hh
    · unfold aNewP at hh
      repeat' split at hh
      all_goals first | (cases hh; exact leA.app) | cases hh
    · cases hh
  · unfold aAald at hh
    repeat' split at hh
    all_goals first | (cases hh; exact leA.rf) | cases hh
  · unfold aIast at hh
    split at hh
    · split at hh
      · rename_i hj
        split at hh
        · cases hh; exact leA.st hj (by show (List.set _ _ _).length = _; exact List.length_set)
        · cases hh
      · cases hh
    · cases hh
  · unfold aBast at hh
    split at hh
    · split at hh
      · rename_i hj
        split at hh
        · cases hh; exact leA.st hj (by show (List.set _ _ _).length = _; exact List.length_set)
        · cases hh
      · cases hh
    · cases hh
  · unfold aAast at hh
    split at hh
    · split at hh
      · rename_i hj hj2
        split at hh
        · cases hh; exact leA.st hj (by show (List.set _ _ _).length = _; exact List.length_set)
        · cases hh
      · cases hh
    · cases hh
  · repeat' split at hh
    all_goals first | (cases hh; exact leA.rf) | cases hh
  · repeat' split at hh
    all_goals first | (cases hh; exact leA.rf) | cases hh
  · cases hh
theorem leA_one {scr : Nat × (Nat → Int32)} {call : Nat → List iV → HA → Option (Option iV × HA)} (hc : ∀ j as h o, call j as h = some o → leA h o.2) {own : Nat} {i : iI} {ts : iX} {c : iC} {h : HA} {o : iC × HA} (hh : iOne (hopA scr) tgT call own i ts c h = some o) : leA h o.2 := by
  unfold iOne at hh
  split at hh
  · cases hh; exact leA.rf
  · split at hh
    · rename_i q; cases hh; exact leA_hop q
    · split at hh
      · cases hh
      · split at hh
        · cases hh
        · split at hh
          · cases hh
          · split at hh
            · cases hh
            · rename_i q; cases hh; exact hc _ _ _ _ q
theorem leA_run {scr : Nat × (Nat → Int32)} {call : Nat → List iV → HA → Option (Option iV × HA)} (hc : ∀ j as h o, call j as h = some o → leA h o.2) {own rk : Nat} {cd : List iE} : ∀ {f : Nat} {c : iC} {h : HA} {o : Option iV × HA}, iRun (hopA scr) tgT call own rk cd f c h = some o → leA h o.2 := by
  intro f
  induction f with
  | zero => intro c h o hh; cases hh
  | succ f ih =>
    intro c h o hh
    unfold iRun at hh
    split at hh
    · cases hh
    · split at hh
      · cases hh; exact leA.rf
      · split at hh
        · cases hh
        · rename_i q; exact (leA_one hc q).tr (ih hh)
theorem leA_go {scr : Nat × (Nat → Int32)} {call : Nat → List iV → HA → Option (Option iV × HA)} (hc : ∀ j as h o, call j as h = some o → leA h o.2) {own rk : Nat} {cd : List iE} : ∀ {f : Nat} {c : iC} {h : HA} {o : iC × HA}, iGo (hopA scr) tgT call own rk cd f c h = some o → leA h o.2 := by
  intro f
  induction f with
  | zero => intro c h o hh; cases hh; exact leA.rf
  | succ f ih =>
    intro c h o hh
    unfold iGo at hh
    split at hh
    · cases hh
    · split at hh
      · cases hh
      · split at hh
        · cases hh
        · rename_i q; exact (leA_one hc q).tr (ih hh)
