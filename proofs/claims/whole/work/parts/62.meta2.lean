/-! Bodies and contracts over the growing heap. -/
section aBody
variable {D : va_G} {ca : Nat → ClassId} {rho : Nat → Int32} {base bs : Nat} {scr : Nat × (Nat → Int32)}
variable {p : Program} {l : Launch} {e : Env} {R : Room} {s : State} {m : MethodId} {args : Array Value} {below : List Frame} {meth : Method} {c : Code} {Q : State → Prop} {cc : ByteArray} {Ts : List Cond} {own nL rk sf n0 z0 : Nat} {cd : List iE} {d j : Nat} {call : Nat → List iV → HA → Option (Option iV × HA)} {y : MethodName} {ret : Option FieldType}
set_option maxHeartbeats 2000000 in
theorem so_runA (hbs : bs < base) (hn0 : s.heap.size = base + n0) (hx : p.tables.exec = Jvm.exec) (hb : c.code = cc) (hml : c.maxLocals = nL) (hown : s.vm.findClass (cn own) = some m.cls) (hts : ∀ w ∈ Ts, w.before args s = true) (hTs : ∀ w ∈ tbG, w ∈ Ts) (hkk : kkA D ca bs scr s)
    (hm : mthT j = some (own, rk, nL, sf, cd)) (hy : yT j = some (y, cc, ret)) (hnm : meth.name = y.name) (hRf : d + 1 ≤ R.frames) (hRl : 40 * (d + 1) ≤ R.locals) (hcs : csA l D ca rho base bs scr call d)
    (o : Option iV × HA) (hRc : o.2.length - n0 ≤ R.cells) (hRs : nsz o.2 - z0 ≤ R.slots)
    (hret : ∀ (i : iI) (n : Nat) (k : iC) (h : HA) (r : Option iV), o = (r, h) → iRet rk i k.2.2 = some r → decode cc k.1 = .ok (i, n) → (iIsSw i = true ∨ n = iLen i) → (n0 ≤ h.length ∧ z0 ≤ nsz h) → ∀ (H : Heap) (locs : List Loc) (lsM : Array Slot), stA D (adA base bs) rho ca base s h H locs → W p l e R s m args below meth c H locs (h.length - n0) (nsz h - z0) Q (F0 m k.1 lsM (k.2.2.map (iTv (adA base bs) rho))))
    (f : Nat) (k : iC) (h : HA) (hrun : iRun (hopA scr) tgT call own rk cd f k h = some o) (hv : n0 ≤ h.length ∧ z0 ≤ nsz h) (H : Heap) (locs : List Loc) (lsM : Array Slot) (hST : stA D (adA base bs) rho ca base s h H locs) (hF : iFr (iTv (adA base bs) rho) k.2.1 lsM nL) :
    W p l e R s m args below meth c H locs (h.length - n0) (nsz h - z0) Q (F0 m k.1 lsM (k.2.2.map (iTv (adA base bs) rho))) := by
  obtain ⟨y', bytes', ret', hy', -, -, -, -, -, -, hdec, hlk⟩ := meth_ok hm
  cases hy.symm.trans hy'
  have hmono : ∀ j as h o, call j as h = some o → leA h o.2 := fun j as h o hc => (hcs j as h o hc).1
  refine snd_run (hop := hopA scr) (tg := tgT) (call := call) (ST := stA D (adA base bs) rho ca base s) (vk := fun h _ => n0 ≤ h.length ∧ z0 ≤ nsz h) (cf := fun h => (h.length - n0, nsz h - z0)) (nL := nL) (ad := adA base bs) (rho := rho) (own := own) (rk := rk) (cd := cd) (cc := cc) o hx hb hdec ?_ ?_ (fun i ts k k' _ _ hv => hv) ?_ ?_ hret f k h hrun hv H locs lsM hST hF
  · intro q hq x hqx
    have := hlk q hq
    rw [hqx] at this
    exact ⟨cn own, hown, hts _ (hTs _ (cs_in (of_decide_eq_true this)))⟩
  · intro q hq x hqx
    have := hlk q hq
    rw [hqx] at this
    exact ⟨cn own, hown, hts _ (hTs _ (cs_in (of_decide_eq_true this)))⟩
  · intro i n k st' h1 h2 hh hd hmem hn hv hrest
    obtain ⟨f2, hrest⟩ := hrest
    have hle := leA_run hmono hrest
    have := so_hopA (l := l) (e := e) (R := R) (below := below) (meth := meth) (Q := Q) (rho := rho) (z0 := z0) hx hb hts hTs hown hkk.1.1 hkk.2 hkk.1.2.2 hbs hn0 i n k st' h1 h2 hh hd hn (fun kx cls fno kd x a b hi hf r hr => by
      obtain ⟨tx, htx⟩ := hmem
      subst hi
      rw [hnm]
      exact pf_at hm hy htx hf r hr) hv ⟨by have := hle.1; omega, by have := hle.2; omega⟩
    exact ⟨this.1, fun H locs lsM _ hST kk => this.2 H locs lsM hST kk⟩
  · intro i n kx j2 nn k r h1 h2 hi ht hok8 hc hd hmem hn hv hrest H locs lsM hsz hST kk
    obtain ⟨f2, hrest⟩ := hrest
    have hle := leA_run hmono hrest
    exact so_callA hbs hn0 hx hb hml hown hts hTs hkk hlk hRf hRl hcs i n kx j2 nn k r h1 h2 hi ht hok8 hc hd hmem hn hv ⟨by have := hle.1; omega, by have := hle.2; omega⟩ H locs lsM hsz hST kk
set_option maxHeartbeats 2000000 in
theorem so_goA (hbs : bs < base) (hn0 : s.heap.size = base + n0) (hx : p.tables.exec = Jvm.exec) (hb : c.code = cc) (hml : c.maxLocals = nL) (hown : s.vm.findClass (cn own) = some m.cls) (hts : ∀ w ∈ Ts, w.before args s = true) (hTs : ∀ w ∈ tbG, w ∈ Ts) (hkk : kkA D ca bs scr s)
    (hm : mthT j = some (own, rk, nL, sf, cd)) (hy : yT j = some (y, cc, ret)) (hnm : meth.name = y.name) (hRf : d + 1 ≤ R.frames) (hRl : 40 * (d + 1) ≤ R.locals) (hcs : csA l D ca rho base bs scr call d)
    (kZ : iC) (hZ : HA) (hRc : hZ.length - n0 ≤ R.cells) (hRs : nsz hZ - z0 ≤ R.slots)
    (hend : ∀ (H : Heap) (locs : List Loc) (lsM : Array Slot), (n0 ≤ hZ.length ∧ z0 ≤ nsz hZ) → stA D (adA base bs) rho ca base s hZ H locs → iFr (iTv (adA base bs) rho) kZ.2.1 lsM nL → W p l e R s m args below meth c H locs (hZ.length - n0) (nsz hZ - z0) Q (F0 m kZ.1 lsM (kZ.2.2.map (iTv (adA base bs) rho))))
    (f : Nat) (k : iC) (h : HA) (hrun : iGo (hopA scr) tgT call own rk cd f k h = some (kZ, hZ)) (hv : n0 ≤ h.length ∧ z0 ≤ nsz h) (H : Heap) (locs : List Loc) (lsM : Array Slot) (hST : stA D (adA base bs) rho ca base s h H locs) (hF : iFr (iTv (adA base bs) rho) k.2.1 lsM nL) :
    W p l e R s m args below meth c H locs (h.length - n0) (nsz h - z0) Q (F0 m k.1 lsM (k.2.2.map (iTv (adA base bs) rho))) := by
  obtain ⟨y', bytes', ret', hy', -, -, -, -, -, -, hdec, hlk⟩ := meth_ok hm
  cases hy.symm.trans hy'
  have hmono : ∀ j as h o, call j as h = some o → leA h o.2 := fun j as h o hc => (hcs j as h o hc).1
  refine snd_go (hop := hopA scr) (tg := tgT) (call := call) (ST := stA D (adA base bs) rho ca base s) (vk := fun h _ => n0 ≤ h.length ∧ z0 ≤ nsz h) (cf := fun h => (h.length - n0, nsz h - z0)) (nL := nL) (ad := adA base bs) (rho := rho) (own := own) (rk := rk) (cd := cd) (cc := cc) kZ hZ hx hb hdec ?_ ?_ (fun i ts k k' _ _ hv => hv) ?_ ?_ hend f k h hrun hv H locs lsM hST hF
  · intro q hq x hqx
    have := hlk q hq
    rw [hqx] at this
    exact ⟨cn own, hown, hts _ (hTs _ (cs_in (of_decide_eq_true this)))⟩
  · intro q hq x hqx
    have := hlk q hq
    rw [hqx] at this
    exact ⟨cn own, hown, hts _ (hTs _ (cs_in (of_decide_eq_true this)))⟩
  · intro i n k st' h1 h2 hh hd hmem hn hv hrest
    obtain ⟨f2, hrest⟩ := hrest
    have hle := leA_go hmono hrest
    have := so_hopA (l := l) (e := e) (R := R) (below := below) (meth := meth) (Q := Q) (rho := rho) (z0 := z0) hx hb hts hTs hown hkk.1.1 hkk.2 hkk.1.2.2 hbs hn0 i n k st' h1 h2 hh hd hn (fun kx cls fno kd x a b hi hf r hr => by
      obtain ⟨tx, htx⟩ := hmem
      subst hi
      rw [hnm]
      exact pf_at hm hy htx hf r hr) hv ⟨by have := hle.1; dsimp only at this; omega, by have := hle.2; dsimp only at this; omega⟩
    exact ⟨this.1, fun H locs lsM _ hST kk => this.2 H locs lsM hST kk⟩
  · intro i n kx j2 nn k r h1 h2 hi ht hok8 hc hd hmem hn hv hrest H locs lsM hsz hST kk
    obtain ⟨f2, hrest⟩ := hrest
    have hle := leA_go hmono hrest
    exact so_callA hbs hn0 hx hb hml hown hts hTs hkk hlk hRf hRl hcs i n kx j2 nn k r h1 h2 hi ht hok8 hc hd hmem hn hv ⟨by have := hle.1; dsimp only at this; omega, by have := hle.2; dsimp only at this; omega⟩ H locs lsM hsz hST kk
end aBody
section aMet2
variable {D : va_G} {ca : Nat → ClassId} {rho : Nat → Int32} {base bs : Nat} {scr : Nat × (Nat → Int32)}
variable {p : Program} {l : Launch} {e : Env} {R : Room} {s : State} {m : MethodId} {args : Array Value} {below : List Frame} {meth : Method} {c : Code} {cc : ByteArray} {rk n0 z0 : Nat} {ret : Option FieldType}
/-- the end of a method -/
theorem so_endA (hx : p.tables.exec = Jvm.exec) (hb : c.code = cc) (hlocks : meth.locks = false) (hr : meth.sig.returnType = ret) (hrk : rkB rk ret = true) (hn0 : s.heap.size = base + n0) (o : Option iV × HA)
    (i : iI) (n : Nat) (k : iC) (h : HA) (r : Option iV) (ho : o = (r, h)) (hrt : iRet rk i k.2.2 = some r) (hd : decode cc k.1 = .ok (i, n)) (hn : iIsSw i = true ∨ n = iLen i) (hv : n0 ≤ h.length ∧ z0 ≤ nsz h) (H : Heap) (locs : List Loc) (lsM : Array Slot) (hST : stA D (adA base bs) rho ca base s h H locs) :
    W p l e R s m args below meth c H locs (h.length - n0) (nsz h - z0) (MQ below (postA D ca rho base bs o) args s (o.2.length - n0) (nsz o.2 - z0) (fun q => base ≤ q)) (F0 m k.1 lsM (k.2.2.map (iTv (adA base bs) rho))) := by
  refine W_size (fun hz => ?_)
  have hHs := so_size hST hn0 hv.1 hz
  subst ho
  obtain ⟨pc, ls1, st1⟩ := k
  dsimp only at hrt hd ⊢
  unfold iRet at hrt
  split at hrt
  · split at hrt
    · cases hrt
      obtain rfl : n = 1 := hn.resolve_left (fun q => by cases q)
      have hr0 : ret = none := by
        cases ret with
        | none => rfl
        | some t => cases hrk
      exact W.vret hx hb (hr.trans hr0) (fun t ht hW => ⟨rfl, by rw [ht]; exact hST.1, by rw [ht]; exact hHs, hST.2.F ht⟩) hST.2.2.2 hd
    · cases hrt
  · split at hrt
    · cases hrt
      obtain rfl : n = 1 := hn.resolve_left (fun q => by cases q)
      have hr0 : ret = some .int := by
        cases ret with
        | none => cases hrk
        | some t => cases t <;> first | rfl | cases hrk
      exact W.iret hx hb (hr.trans hr0) (fun t ht hW => ⟨rfl, by rw [ht]; exact hST.1, by rw [ht]; exact hHs, hST.2.F ht⟩) hST.2.2.2 hd
    · split at hrt
      · rename_i hbb
        cases hrt
        obtain rfl : n = 1 := hn.resolve_left (fun q => by cases q)
        have hr0 : ret = some .boolean := by
          cases ret with
          | none => cases hrk
          | some t => cases t <;> first | rfl | cases hrk
        refine W.zret hx hb (hr.trans hr0) ?_ (fun t ht hW => ⟨rfl, by rw [ht]; exact hST.1, by rw [ht]; exact hHs, hST.2.F ht⟩) hST.2.2.2 hd
        simp only [iIsB, Bool.or_eq_true, decide_eq_true_eq] at hbb
        rcases hbb with rfl | rfl <;> rfl
      · cases hrt
    · cases hrt
  · split at hrt
    · cases hrt
      obtain rfl : n = 1 := hn.resolve_left (fun q => by cases q)
      have hr0 : ∃ C, ret = some (.object C) := by
        cases ret with
        | none => cases hrk
        | some t => cases t <;> first | exact ⟨_, rfl⟩ | cases hrk
      obtain ⟨C, hr0⟩ := hr0
      exact W.aret hx hb (hr.trans hr0) (Or.inl ⟨C, rfl⟩) (Or.inr ⟨_, rfl⟩) (fun t ht hW => ⟨rfl, by rw [ht]; exact hST.1, by rw [ht]; exact hHs, hST.2.F ht⟩) hST.2.2.2 hd
    · cases hrt
  · cases hrt
end aMet2
section aMet3
variable {D : va_G} {ca : Nat → ClassId} {rho : Nat → Int32} {base bs : Nat} {scr : Nat × (Nat → Int32)}
set_option maxHeartbeats 2000000 in
theorem so_metA1 (l : Launch) (hbs : bs < base) {call : Nat → List iV → HA → Option (Option iV × HA)} {d : Nat} (hcs : csA l D ca rho base bs scr call d) {j own rk nL sf f : Nat} {cd : List iE} {y : MethodName} {bytes : ByteArray} {ret : Option FieldType} (hm : mthT j = some (own, rk, nL, sf, cd)) (hy : yT j = some (y, bytes, ret)) {as : List iV} {ls : iL} {h : HA} {o : Option iV × HA} (he : iEntry as nL = some ls)
    (hrun : iRun (hopA scr) tgT call own rk cd f (0, ls, []) h = some o) : Met l y (wsT y bytes nL ret) (rmA (d + 1) (o.2.length - h.length) (nsz o.2 - nsz h)) (preA D ca rho base bs scr as h) (postA D ca rho base bs o) (o.2.length - h.length) (nsz o.2 - nsz h) (fun q => base ≤ q) := by
  obtain ⟨y', bytes', ret', hy', hcode, hpl, hcn, hrk, hnL, hmh, hdec, hlk⟩ := meth_ok hm
  cases hy.symm.trans hy'
  refine Met_ofWF (cc := bytes) (maxL := nL) (ret := ret) hpl rfl ?_
  intro p e s m args below meth c s₁ B hml hp
  obtain ⟨rfl, hP, hsz, hkk⟩ := hp
  have hts := atoms_spec (ws := wsT y bytes nL ret) B.pre
  have hown : s.vm.findClass (cn own) = some m.cls := by
    rw [← hcn]
    exact findClass_of_methodNamed B.named
  have hTs : ∀ w ∈ tbG, w ∈ wsT y bytes nL ret := fun w hw => List.mem_cons_of_mem _ hw
  rw [lg_entry_eq]
  have := so_runA (R := (headSpec (wsT y bytes nL ret) (rmA (d + 1) (o.2.length - h.length) (nsz o.2 - nsz h))).room) (Q := MQ below (postA D ca rho base bs o) (as.map (iTv (adA base bs) rho)).toArray s (o.2.length - h.length) (nsz o.2 - nsz h) (fun q => base ≤ q)) (e := e) (below := below) (n0 := h.length) (z0 := nsz h) (d := d) hbs hsz B.exec B.bytes hml hown hts hTs hkk hm hy (name_of_methodNamed B.named B.method).1 (Nat.le_refl _) (Nat.le_refl _) hcs o (Nat.le_refl _) (Nat.le_refl _)
    (fun i n k h2 r ho hrt hd hn hv H locs lsM hST => so_endA B.exec B.bytes B.notSynchronized B.returns hrk hsz o i n k h2 r ho hrt hd hn hv H locs lsM hST) f (0, ls, []) h hrun ⟨Nat.le_refl _, Nat.le_refl _⟩ s.heap [] _ ⟨hP, va_S.rf⟩ (iFr_entry he)
  rw [Nat.sub_self, Nat.sub_self] at this
  exact this
theorem so_metA (l : Launch) (hbs : bs < base) (F : Nat) : ∀ d : Nat, csA l D ca rho base bs scr (metA scr F d) d := by
  intro d
  induction d with
  | zero => intro j as h o hh; cases hh
  | succ d ih =>
    intro j as h o hh
    refine ⟨leA_met hh, fun hj => ?_, fun hj h160 => ?_⟩
    · subst hj
      unfold metA at hh
      split at hh
      · cases hh
      · dsimp only at hh
        split at hh
        · cases hh; exact ⟨⟨_, rfl⟩, rfl⟩
        · cases hh
    · cases j with
      | zero => exact absurd rfl hj
      | succ j =>
        unfold metA at hh
        split at hh
        · cases hh
        · rename_i hrcv
          dsimp only at hh
          split at hh
          · cases hh
          · rename_i own rk nL sf cd hm
            split at hh
            · cases hh
            · rename_i hrc
              split at hh
              · cases hh
              · rename_i ls he
                obtain ⟨y, bytes, ret, hy, hcode, hpl, hcn, hrk, hnL, hmh, hdec, hlk⟩ := meth_ok hm
                exact ⟨own, rk, nL, sf, cd, y, bytes, ret, hm, hy, hrc, hrcv, hnL, hcn, so_metA1 l hbs ih hm hy he hh⟩
end aMet3
