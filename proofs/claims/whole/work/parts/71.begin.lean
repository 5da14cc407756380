/-! The law from its entry to its loop. -/
theorem go_hop {Hp : Type} {hop : Nat → iI → List iV → Hp → Option (List iV × Hp)} {tg : Nat → Nat → Option (Nat × Nat)} {call : Nat → List iV → Hp → Option (Option iV × Hp)} {own rk : Nat} {cd : List iE} {pc n : Nat} {i : iI} {ts : iX} {ls : iL} {st st' : List iV} {h h' : Hp} (hl : iLk cd pc = some (i, n, ts)) (hr : iRet rk i st = none) (h1 : iStp i ts (pc, ls, st) = none) (h2 : hop own i st h = some (st', h')) : iGo hop tg call own rk cd 1 (pc, ls, st) h = some ((pc + iLen i, ls, st'), h') := by
  unfold iGo
  dsimp only
  rw [hl]
  dsimp only
  rw [hr]
  dsimp only
  unfold iOne
  rw [h1]
  dsimp only
  rw [h2]
  rfl
set_option maxRecDepth 100000 in
theorem len_C1 : hC1.length = 314 := by decide +kernel
set_option maxRecDepth 100000 in
theorem len_M3 : hM3.length ≤ 600000 := by decide +kernel
set_option maxRecDepth 100000 in
theorem nsz_M3 : nsz hM3 ≤ 7302250 := by decide +kernel
theorem np_law : cd_Law_law.all (fun q => match q.2.1 with | .putfield _ => false | _ => true) = true := by decide +kernel
section aBeg
variable {D : va_G} {ca : Nat → ClassId} {rho : Nat → Int32} {base bs : Nat} {scr : Nat × (Nat → Int32)}
variable {p : Program} {l : Launch} {e : Env} {R : Room} {s : State} {m : MethodId} {args : Array Value} {below : List Frame} {meth : Method} {c : Code} {Q : State → Prop} {cc : ByteArray} {Ts : List Cond} {own nL rk sf n0 z0 : Nat} {cd : List iE} {d j : Nat} {call : Nat → List iV → HA → Option (Option iV × HA)} {y : MethodName} {ret : Option FieldType}
set_option maxHeartbeats 2000000 in
/-- a part of a body that puts no field -/
theorem so_goL (hbs : bs < base) (hn0 : s.heap.size = base + n0) (hx : p.tables.exec = Jvm.exec) (hb : c.code = cc) (hml : c.maxLocals = nL) (hown : s.vm.findClass (cn own) = some m.cls) (hts : ∀ w ∈ Ts, w.before args s = true) (hTs : ∀ w ∈ tbG, w ∈ Ts) (hkk : kkA D ca bs scr s)
    (hm : mthT j = some (own, rk, nL, sf, cd)) (hy : yT j = some (y, cc, ret)) (hnp : cd.all (fun q => match q.2.1 with | .putfield _ => false | _ => true) = true) (hRf : d + 1 ≤ R.frames) (hRl : 40 * (d + 1) ≤ R.locals) (hcs : csA l D ca rho base bs scr call d)
    (kZ : iC) (hZ : HA) (hRc : hZ.length - n0 ≤ R.cells) (hRs : nsz hZ - z0 ≤ R.slots)
    (hend : ∀ (H : Heap) (locs : List Loc) (lsM : Array Slot), (n0 ≤ hZ.length ∧ z0 ≤ nsz hZ) → stA D (adA base bs) rho ca base s hZ H locs → iFr (iTv (adA base bs) rho) kZ.2.1 lsM nL → W p l e R s m args below meth c H locs (hZ.length - n0) (nsz hZ - z0) Q (F0 m kZ.1 lsM (kZ.2.2.map (iTv (adA base bs) rho))))
    (f : Nat) (k : iC) (h : HA) (hrun : iGo (hopA scr) tgT call own rk cd f k h = some (kZ, hZ)) (hv : n0 ≤ h.length ∧ z0 ≤ nsz h) (H : Heap) (locs : List Loc) (lsM : Array Slot) (hST : stA D (adA base bs) rho ca base s h H locs) (hF : iFr (iTv (adA base bs) rho) k.2.1 lsM nL) :
    W p l e R s m args below meth c H locs (h.length - n0) (nsz h - z0) Q (F0 m k.1 lsM (k.2.2.map (iTv (adA base bs) rho))) := by
  obtain ⟨y', bytes', ret', hy', -, -, -, -, -, -, hdec, hlk⟩ := meth_ok hm
  cases hy.symm.trans hy'
  have hmono : ∀ j as h o, call j as h = some o → leA h o.2 := fun j as h o hc => (hcs j as h o hc).1
  refine snd_go (hop := hopA scr) (tg := tgT) (call := call) (ST := stA D (adA base bs) rho ca base s) (vk := fun h _ => n0 ≤ h.length ∧ z0 ≤ nsz h) (cf := fun h => (h.length - n0, nsz h - z0)) (nL := nL) (ad := adA base bs) (rho := rho) (own := own) (rk := rk) (cd := cd) (cc := cc) kZ hZ hx hb hdec ?_ ?_ (fun i ts k k' _ _ hv => hv) ?_ ?_ hend f k h hrun hv H locs lsM hST hF
  · intro q hq x hqx
    have := hlk q hq
    rw [hqx] at this
    exact ⟨cn own, hown, hts _ (hTs _ (cs_in (of_decide_eq_true this)))⟩
  · intro q hq x hqx
    have := hlk q hq
    rw [hqx] at this
    exact ⟨cn own, hown, hts _ (hTs _ (cs_in (of_decide_eq_true this)))⟩
  · intro i n k st' h1 h2 hh hd hmem hn hv hrest
    obtain ⟨f2, hrest⟩ := hrest
    have hle := leA_go hmono hrest
    have := so_hopA (l := l) (e := e) (R := R) (below := below) (meth := meth) (Q := Q) (rho := rho) (z0 := z0) hx hb hts hTs hown hkk.1.1 hkk.2 hkk.1.2.2 hbs hn0 i n k st' h1 h2 hh hd hn (fun kx cls fno kd x a b hi hf r hr => by
      obtain ⟨tx, htx⟩ := hmem
      subst hi
      have := List.all_eq_true.mp hnp _ htx
      cases this) hv ⟨by have := hle.1; dsimp only at this; omega, by have := hle.2; dsimp only at this; omega⟩
    exact ⟨this.1, fun H locs lsM _ hST kk => this.2 H locs lsM hST kk⟩
  · intro i n kx j2 nn k r h1 h2 hi ht hok8 hc hd hmem hn hv hrest H locs lsM hsz hST kk
    obtain ⟨f2, hrest⟩ := hrest
    have hle := leA_go hmono hrest
    exact so_callA hbs hn0 hx hb hml hown hts hTs hkk hlk hRf hRl hcs i n kx j2 nn k r h1 h2 hi ht hok8 hc hd hmem hn hv ⟨by have := hle.1; dsimp only at this; omega, by have := hle.2; dsimp only at this; omega⟩ H locs lsM hsz hST kk
end aBeg
theorem le_C1 : leA hC1 hM3 := leA.app.tr (le_M1.tr (le_M2.tr le_M3))
theorem le_01 : leA [(0, dfA 0)] hM3 := (le_L (scr := (0, fun _ => 0))).tr le_C1
theorem le_CM : leA (hC1 ++ [(1, dfA 1)]) hM3 := le_M1.tr (le_M2.tr le_M3)
theorem scC_in {L : Nat} {xs : Nat → Int32} (hL : L ≤ 4099) {i : Int32} (h0 : 0 ≤ i) (h : i < Int32.ofNat (L, xs).1) : inb i (L, xs).1 = true := by
  unfold inb
  rw [Bool.and_eq_true]
  have h0' : ¬ i < 0 := Int32.not_lt.mpr h0
  refine ⟨by rw [decide_eq_false h0']; rfl, ?_⟩
  rw [Nat.blt_eq]
  dsimp only at h ⊢
  rw [Int32.lt_iff_toInt_lt, Int32.toInt_ofNat_of_lt (by omega)] at h
  rw [← Int32.toNat_toInt]
  have : (0 : Int32).toInt ≤ i.toInt := Int32.le_iff_toInt_le.mp h0
  have e0 : (0 : Int32).toInt = 0 := rfl
  omega
set_option maxHeartbeats 4000000 in
set_option maxRecDepth 100000 in
theorem law_start {p : Program} {e : Env} {s : State} {m : MethodId} {below : List Frame} {meth : Method} {c : Code} (l : Launch) {b L : Nat} {xs : Nat → Int32} (hL : L ≤ 4099) (C0 : lw_At p s m meth c b L xs)
    (hpure : ∃ S' T', f_Law_law_48 (L, xs) 0 0 0 (3, S0 (rhS (scC (L, xs) 0) (scC (L, xs) 1) (scC (L, xs) 2)), S0 (rhS (scC (L, xs) 0) (scC (L, xs) 1) (scC (L, xs) 2))) = some (1, S', T')) : W p l e room_1 s m #[Value.ref b] below meth c s.heap [] 0 0 (lw_Z below #[Value.ref b] s) (entryFrame m ([Value.ref b] : List Value).toArray 4) := by
  obtain ⟨S', T', hpure⟩ := hpure
  have C1 := C0
  obtain ⟨hx, hb, hr, hml, hown, hts, hX, hbl, hlocks, -⟩ := C0
  obtain ⟨D, ca, hkk⟩ := st_kk hts hX
  have hts' : ∀ w ∈ tbG, w ∈ lw_tbl := fun w hw => (List.mem_filter.mp hw).1
  generalize hc0 : scC (L, xs) 0 = c0 at hpure
  generalize hc1 : scC (L, xs) 1 = c1 at hpure
  generalize hc2 : scC (L, xs) 2 = c2 at hpure
  have go : ∀ (d : Nat) (call : Nat → List iV → HA → Option (Option iV × HA)) (f : Nat) (k : iC) (h : HA) (kZ : iC) (hZ : HA), d ≤ 8 → csA l D ca (rhS c0 c1 c2) s.heap.size b (L, xs) call d → leA hZ hM3 → iGo (hopA (L, xs)) tgT call 13 2 cd_Law_law f k h = some (kZ, hZ) →
      (∀ (H : Heap) (locs : List Loc) (lsM : Array Slot), stA D (adA s.heap.size b) (rhS c0 c1 c2) ca s.heap.size s hZ H locs → iFr (iTv (adA s.heap.size b) (rhS c0 c1 c2)) kZ.2.1 lsM 4 → W p l e room_1 s m #[Value.ref b] below meth c H locs (hZ.length - 0) (nsz hZ - 0) (lw_Z below #[Value.ref b] s) (F0 m kZ.1 lsM (kZ.2.2.map (iTv (adA s.heap.size b) (rhS c0 c1 c2))))) →
      ∀ (H : Heap) (locs : List Loc) (lsM : Array Slot), stA D (adA s.heap.size b) (rhS c0 c1 c2) ca s.heap.size s h H locs → iFr (iTv (adA s.heap.size b) (rhS c0 c1 c2)) k.2.1 lsM 4 → W p l e room_1 s m #[Value.ref b] below meth c H locs (h.length - 0) (nsz h - 0) (lw_Z below #[Value.ref b] s) (F0 m k.1 lsM (k.2.2.map (iTv (adA s.heap.size b) (rhS c0 c1 c2)))) := by
    intro d call f k h kZ hZ hd hcs hle hgo hPZ H locs lsM hST hF
    exact so_goL (R := room_1) (d := d) (j := 160) (own := 13) (rk := 2) (nL := 4) (sf := 1) (cd := cd_Law_law) (cc := code) (y := ⟨"StreamLinkLaw", "law", "([I)Z"⟩) (ret := some .boolean) (n0 := 0) (z0 := 0) hbl rfl hx hb hml hown hts hts' hkk rfl rfl np_law (by show d + 1 ≤ 10; omega) (by show 40 * (d + 1) ≤ 378; omega) hcs kZ hZ (by have := hle.1; have := len_M3; show _ ≤ 600000; omega) (by have := hle.2; have := nsz_M3; show _ ≤ 7302250; omega) (fun H locs lsM _ hST hF => hPZ H locs lsM hST hF) f k h hgo ⟨Nat.zero_le _, Nat.zero_le _⟩ H locs lsM hST hF
  have h1 : leA ([] : HA) hM3 := ⟨Nat.zero_le _, Nat.zero_le _⟩
  have g0 : ∀ h : HA, csA l D ca (rhS c0 c1 c2) s.heap.size b (L, xs) (coneA 156 [vR 63 0, vI 0] h (some (vI c0), h)) 1 := fun h => by
    rw [← hc0]
    exact ct_cell l hbl (d := 0) 0 (scC_in hL (by decide)) h
  have g1 : ∀ h : HA, csA l D ca (rhS c0 c1 c2) s.heap.size b (L, xs) (coneA 156 [vR 63 0, vI 1] h (some (vI c1), h)) 1 := fun h => by
    rw [← hc1]
    exact ct_cell l hbl (d := 0) 1 (scC_in hL (by decide)) h
  have g2 : ∀ h : HA, csA l D ca (rhS c0 c1 c2) s.heap.size b (L, xs) (coneA 156 [vR 63 0, vI 2] h (some (vI c2), h)) 1 := fun h => by
    rw [← hc2]
    exact ct_cell l hbl (d := 0) 2 (scC_in hL (by decide)) h
  rw [lg_entry_eq]
  refine go 0 (fun _ _ _ => none) 4 (0, [some (vR 63 0), none, none, none], []) [] (6, [some (vR 63 0), none, none, none], [vI 0, vR 63 0, vR 0 0, vR 0 0]) [(0, dfA 0)] (by decide) csA_none le_01 rfl ?_ s.heap [] _ ⟨fun k q hk => (by cases hk), va_S.rf⟩ (iFr_entry (as := [vR 63 0]) (n := 4) rfl)
  refine go 1 _ 1 _ _ (9, [some (vR 63 0), none, none, none], [vI c0, vR 0 0, vR 0 0]) _ (by decide) (g0 _) le_01 (go_call rfl rfl rfl rfl rfl rfl rfl rfl rfl coneA_at) ?_
  refine go 0 (fun _ _ _ => none) 2 _ _ (11, [some (vR 63 0), none, none, none], [vI 1, vR 63 0, vI c0, vR 0 0, vR 0 0]) _ (by decide) csA_none le_01 rfl ?_
  refine go 1 _ 1 _ _ (14, [some (vR 63 0), none, none, none], [vI c1, vI c0, vR 0 0, vR 0 0]) _ (by decide) (g1 _) le_01 (go_call rfl rfl rfl rfl rfl rfl rfl rfl rfl coneA_at) ?_
  refine go 0 (fun _ _ _ => none) 2 _ _ (16, [some (vR 63 0), none, none, none], [vI 2, vR 63 0, vI c1, vI c0, vR 0 0, vR 0 0]) _ (by decide) csA_none le_01 rfl ?_
  refine go 1 _ 1 _ _ (19, [some (vR 63 0), none, none, none], [vI c2, vI c1, vI c0, vR 0 0, vR 0 0]) _ (by decide) (g2 _) le_01 (go_call rfl rfl rfl rfl rfl rfl rfl rfl rfl coneA_at) ?_
  refine go 8 _ 1 _ _ (22, [some (vR 63 0), none, none, none], [vR 0 0]) hC1 (by decide) (ct_L l hbl c0 c1 c2) le_C1 (go_call (r := none) rfl rfl rfl rfl rfl rfl rfl rfl rfl coneA_at) ?_
  refine go 0 (fun _ _ _ => none) 1 _ _ (23, [some (vR 63 0), some (vR 0 0), none, none], []) _ (by decide) csA_none le_C1 rfl ?_
  refine go 0 (fun _ _ _ => none) 1 _ _ (26, [some (vR 63 0), some (vR 0 0), none, none], [vR 1 314]) (hC1 ++ [(1, dfA 1)]) (by decide) csA_none le_CM (go_hop (i := .new 18) (n := 3) (ts := ([], 0)) rfl rfl rfl (by
    show some ([vR 1 hC1.length], hC1 ++ [(1, dfA 1)]) = _
    rw [len_C1])) ?_
  refine go 0 (fun _ _ _ => none) 3 _ _ (29, [some (vR 63 0), some (vR 0 0), none, none], [vI 0, vR 63 0, vR 1 314, vR 1 314]) _ (by decide) csA_none le_CM rfl ?_
  refine go 1 _ 1 _ _ (32, [some (vR 63 0), some (vR 0 0), none, none], [vI c0, vR 1 314, vR 1 314]) _ (by decide) (g0 _) le_CM (go_call rfl rfl rfl rfl rfl rfl rfl rfl rfl coneA_at) ?_
  refine go 0 (fun _ _ _ => none) 2 _ _ (34, [some (vR 63 0), some (vR 0 0), none, none], [vI 1, vR 63 0, vI c0, vR 1 314, vR 1 314]) _ (by decide) csA_none le_CM rfl ?_
  refine go 1 _ 1 _ _ (37, [some (vR 63 0), some (vR 0 0), none, none], [vI c1, vI c0, vR 1 314, vR 1 314]) _ (by decide) (g1 _) le_CM (go_call rfl rfl rfl rfl rfl rfl rfl rfl rfl coneA_at) ?_
  refine go 0 (fun _ _ _ => none) 2 _ _ (39, [some (vR 63 0), some (vR 0 0), none, none], [vI 2, vR 63 0, vI c1, vI c0, vR 1 314, vR 1 314]) _ (by decide) csA_none le_CM rfl ?_
  refine go 1 _ 1 _ _ (42, [some (vR 63 0), some (vR 0 0), none, none], [vI c2, vI c1, vI c0, vR 1 314, vR 1 314]) _ (by decide) (g2 _) le_CM (go_call rfl rfl rfl rfl rfl rfl rfl rfl rfl coneA_at) ?_
  refine go 2 _ 1 _ _ (45, [some (vR 63 0), some (vR 0 0), none, none], [vR 1 314]) hM3 (by decide) (ct_M l hbl c0 c1 c2) leA.rf (go_call (r := none) rfl rfl rfl rfl rfl rfl rfl rfl rfl coneA_at) ?_
  refine go 0 (fun _ _ _ => none) 3 _ _ (48, [some (vR 63 0), some (vR 0 0), some (vR 1 314), some (vI 3)], []) _ (by decide) csA_none leA.rf rfl ?_
  intro H locs lsM hST hF
  refine so_law (ad := adF s.heap.size b) (rho := rhS c0 c1 c2) C1 rfl hkk.1 hpure ⟨tr_P hST.1, tr_D, hST.2⟩ len_M3 nsz_M3 ?_
  have e1 : iTv (adA s.heap.size b) (rhS c0 c1 c2) (vR 0 0) = iTv (adF s.heap.size b) (rhS c0 c1 c2) (vR 0 0) := rfl
  have e2 : iTv (adA s.heap.size b) (rhS c0 c1 c2) (vR 1 314) = iTv (adF s.heap.size b) (rhS c0 c1 c2) (vR 1 0) := rfl
  refine ⟨hF.1, hF.2.1, hF.2.2.1, fun i v hv => ?_⟩
  rcases i with _ | _ | _ | _ | i
  · cases hv; exact hF.2.2.2 0 _ rfl
  · cases hv; exact hF.2.2.2 1 _ rfl
  · cases hv; exact hF.2.2.2 2 _ rfl
  · cases hv; exact hF.2.2.2 3 _ rfl
  · cases hv
