/-! The walk of a body: from the interpreter's run to the machine; what the heap and the calls do is a premise. -/
section iWalk
variable {Hp : Type} {hop : Nat → iI → List iV → Hp → Option (List iV × Hp)} {tg : Nat → Nat → Option (Nat × Nat)} {call : Nat → List iV → Hp → Option (Option iV × Hp)}
variable {p : Program} {l : Launch} {e : Env} {R : Room} {s : State} {m : MethodId} {args : Array Value} {below : List Frame} {meth : Method} {c : Code} {Q : State → Prop}
variable {cc : ByteArray} {ad : Nat → Nat → Nat} {rho : Nat → Int32} {nL own rk : Nat} {cd : List iE} {ST : Hp → Heap → List Loc → Prop} {vk : Hp → iC → Prop} {cf : Hp → Nat × Nat}
set_option maxHeartbeats 1000000 in
theorem snd_run (o : Option iV × Hp) (hx : p.tables.exec = Jvm.exec) (hb : c.code = cc)
    (hfetch : ∀ q ∈ cd, decode cc q.1 = .ok (q.2.1, q.2.2.1) ∧ iOK q = true)
    (hk1 : ∀ q ∈ cd, ∀ x, q.2.1 = .ldc x → ∃ own, s.vm.findClass own = some m.cls ∧ (Jvm.Cond.constant own x q.2.2.2.2).before args s = true) (hk2 : ∀ q ∈ cd, ∀ x, q.2.1 = .ldc2_w x → ∃ own, s.vm.findClass own = some m.cls ∧ (Jvm.Cond.constantLong own x q.2.2.2.2.toInt64).before args s = true)
    (hvk : ∀ (i : iI) (ts : iX) (k k' : iC) (h : Hp), iStp i ts k = some k' → vk h k → vk h k')
    (hhop : ∀ (i : iI) (n : Nat) (k : iC) (st' : List iV) (h h' : Hp), hop own i k.2.2 h = some (st', h') → decode cc k.1 = .ok (i, n) → (∃ tx, (k.1, i, n, tx) ∈ cd) → (iIsSw i = true ∨ n = iLen i) → vk h k → (∃ f, iRun hop tg call own rk cd f (k.1 + iLen i, k.2.1, st') h' = some o) → vk h' (k.1 + iLen i, k.2.1, st') ∧ ∀ (H : Heap) (locs : List Loc) (lsM : Array Slot), lsM.size = nL → ST h H locs →
      (∀ (H1 : Heap) (locs1 : List Loc), ST h' H1 locs1 → W p l e R s m args below meth c H1 locs1 (cf h').1 (cf h').2 Q (F0 m (k.1 + iLen i) lsM (st'.map (iTv ad rho)))) → W p l e R s m args below meth c H locs (cf h).1 (cf h).2 Q (F0 m k.1 lsM (k.2.2.map (iTv ad rho))))
    (hcall : ∀ (i : iI) (n kx j nn : Nat) (k : iC) (r : Option iV) (h h' : Hp), iInv i = some kx → tg own kx = some (j, nn) → (iOkS (k.2.2.drop nn) 8 && Nat.ble nn k.2.2.length) = true → call j (k.2.2.take nn).reverse h = some (r, h') → decode cc k.1 = .ok (i, n) → (∃ tx, (k.1, i, n, tx) ∈ cd) → (iIsSw i = true ∨ n = iLen i) → vk h k → (∃ f, iRun hop tg call own rk cd f (k.1 + 3, k.2.1, r.toList ++ k.2.2.drop nn) h' = some o) →
      ∀ (H : Heap) (locs : List Loc) (lsM : Array Slot), lsM.size = nL → ST h H locs →
      (∀ (H1 : Heap) (locs1 : List Loc), vk h' (k.1 + 3, k.2.1, r.toList ++ k.2.2.drop nn) → ST h' H1 locs1 → W p l e R s m args below meth c H1 locs1 (cf h').1 (cf h').2 Q (F0 m (k.1 + 3) lsM ((r.toList ++ k.2.2.drop nn).map (iTv ad rho)))) → W p l e R s m args below meth c H locs (cf h).1 (cf h).2 Q (F0 m k.1 lsM (k.2.2.map (iTv ad rho))))
    (hret : ∀ (i : iI) (n : Nat) (k : iC) (h : Hp) (r : Option iV), o = (r, h) → iRet rk i k.2.2 = some r → decode cc k.1 = .ok (i, n) → (iIsSw i = true ∨ n = iLen i) → vk h k → ∀ (H : Heap) (locs : List Loc) (lsM : Array Slot), ST h H locs → W p l e R s m args below meth c H locs (cf h).1 (cf h).2 Q (F0 m k.1 lsM (k.2.2.map (iTv ad rho)))) :
    ∀ (f : Nat) (k : iC) (h : Hp), iRun hop tg call own rk cd f k h = some o → vk h k → ∀ (H : Heap) (locs : List Loc) (lsM : Array Slot), ST h H locs → iFr (iTv ad rho) k.2.1 lsM nL → W p l e R s m args below meth c H locs (cf h).1 (cf h).2 Q (F0 m k.1 lsM (k.2.2.map (iTv ad rho))) := by
  intro f
  induction f with
  | zero => intro k h hh; cases hh
  | succ f ih =>
    intro k h hh hv H locs lsM hS hF
    unfold iRun at hh
    split at hh
    · cases hh
    · rename_i i n ts hl
      obtain ⟨hd, hok⟩ := hfetch _ (iLk_mem hl)
      have hn : iIsSw i = true ∨ n = iLen i := by
        simp only [iOK, Bool.and_eq_true, Bool.or_eq_true, decide_eq_true_eq] at hok
        exact hok.1
      split at hh
      · rename_i r hr
        exact hret i n k h r (Option.some.inj hh).symm hr hd hn hv H locs lsM hS
      · rename_i hr
        split at hh
        · cases hh
        · rename_i k' h' h1
          unfold iOne at h1
          split at h1
          · rename_i k2 hs
            cases h1
            exact snd_stp hx hb hs hd hok (hk1 _ (iLk_mem hl)) (hk2 _ (iLk_mem hl)) hF (fun lsM' hF' => ih _ _ hh (hvk _ _ _ _ _ hs hv) H locs lsM' hS hF')
          · rename_i hs
            split at h1
            · rename_i st' h2 hho
              cases h1
              obtain ⟨hv', hw⟩ := hhop i n k st' h h' hho hd ⟨_, iLk_mem hl⟩ hn hv ⟨f, hh⟩
              exact hw H locs lsM hF.1 hS (fun H1 locs1 hS1 => ih _ _ hh hv' H1 locs1 lsM hS1 hF)
            · split at h1
              · cases h1
              · rename_i kx hi
                split at h1
                · cases h1
                · rename_i j nn ht
                  split at h1
                  · cases h1
                  · rename_i hok8
                    split at h1
                    · cases h1
                    · rename_i r h2 hc
                      cases h1
                      exact hcall i n kx j nn k r h h' hi ht hok8 hc hd ⟨_, iLk_mem hl⟩ hn hv ⟨f, hh⟩ H locs lsM hF.1 hS (fun H1 locs1 hv' hS1 => ih _ _ hh hv' H1 locs1 lsM hS1 hF)
end iWalk
/-- entry -/
theorem iEntry_fr {tv : iV → Value} (hc : ∀ v, iCat1 v = true → (tv v).category = 1) : ∀ {as : List iV} {n : Nat} {ls : iL}, iEntry as n = some ls →
    (lg_sl (as.map tv)).length ≤ n ∧ ls.length = n ∧ ∀ (k i : Nat) (v : iV), iGet ls i = some v → (k + i, tv v) ∈ lv_args k (as.map tv) := by
  intro as
  induction as with
  | nil =>
    intro n ls h
    cases h
    refine ⟨by simp [lg_sl], by simp, fun k i v hg => ?_⟩
    exfalso
    induction n generalizing i with
    | zero => cases hg
    | succ n ih2 =>
      cases i with
      | zero => cases hg
      | succ i => exact ih2 i hg
  | cons a r ih =>
    intro n ls h
    cases n with
    | zero => cases h
    | succ n =>
      unfold iEntry at h
      split at h
      · cases h
      · rename_i h1
        split at h
        · cases h
        · rename_i l2 h2
          cases h
          obtain ⟨g1, g2, g3⟩ := ih h2
          have hca := hc a h1
          have hca2 : ¬ (tv a).category = 2 := by omega
          refine ⟨?_, by simp [g2], fun k i v hg => ?_⟩
          · simp only [List.map_cons, lg_sl, List.flatMap_cons, hca2, if_false, List.length_append, List.length_cons, List.length_nil] at g1 ⊢
            omega
          · simp only [List.map_cons, lv_args, hca2, if_false]
            cases i with
            | zero =>
              cases hg
              exact List.mem_cons_self
            | succ i =>
              have := g3 (k + 1) i v hg
              rw [show k + 1 + i = k + (i + 1) by omega] at this
              exact List.mem_cons_of_mem _ this
theorem iFr_entry {ad : Nat → Nat → Nat} {rho : Nat → Int32} {as : List iV} {n : Nat} {ls : iL} (h : iEntry as n = some ls) :
    iFr (iTv ad rho) ls ((lg_sl (as.map (iTv ad rho)) ++ List.replicate (n - (lg_sl (as.map (iTv ad rho))).length) Slot.unset).toArray) n := by
  obtain ⟨g1, g2, g3⟩ := iEntry_fr (tv := iTv ad rho) (fun v hv => iTv_cat1 hv) h
  obtain ⟨e1, e2, e3⟩ := lv_entry (as.map (iTv ad rho)) g1
  refine ⟨e1, e2, g2, fun i v hv => ?_⟩
  have := g3 0 i v hv
  rw [Nat.zero_add] at this
  exact e3 _ this
