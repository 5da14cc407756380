/-! Bodies in pieces: an oracle for one call, and the machine left out. -/
def swO (tv : iV → Value) : Option iV → Option iV → Prop
  | _, none => True
  | some v, some w => tv v = tv w
  | none, some _ => False
def swL (tv : iV → Value) : iL → iL → Prop
  | [], [] => True
  | a :: r, b :: q => swO tv a b ∧ swL tv r q
  | _, _ => False
theorem swL_len {tv : iV → Value} : ∀ {a b : iL}, swL tv a b → a.length = b.length := by
  intro a
  induction a with
  | nil => intro b h; cases b with | nil => rfl | cons x y => cases h
  | cons x r ih =>
    intro b h
    cases b with
    | nil => cases h
    | cons y q => rw [List.length_cons, List.length_cons, ih h.2]
theorem swL_get {tv : iV → Value} : ∀ {a b : iL} {i : Nat} {v : iV}, swL tv a b → iGet b i = some v → ∃ w, iGet a i = some w ∧ tv w = tv v := by
  intro a
  induction a with
  | nil => intro b i v h hg; cases b with | nil => cases hg | cons x y => cases h
  | cons x r ih =>
    intro b i v h hg
    cases b with
    | nil => cases h
    | cons y q =>
      cases i with
      | succ i => exact ih h.2 hg
      | zero =>
        have hg : y = some v := hg
        subst hg
        cases x with
        | none => exact h.1.elim
        | some w => exact ⟨w, rfl, h.1⟩
theorem swL_fr {tv : iV → Value} {a b : iL} {lsM : Array Slot} {n : Nat} (h : swL tv a b) (hF : iFr tv a lsM n) : iFr tv b lsM n :=
  ⟨hF.1, hF.2.1, (swL_len h).symm.trans hF.2.2.1, fun i v hg => by
    obtain ⟨w, h1, h2⟩ := swL_get h hg
    rw [← h2]
    exact hF.2.2.2 i w h1⟩
/-- an oracle that knows one call -/
noncomputable def coneA (j0 : Nat) (as0 : List iV) (h0 : HA) (o0 : Option iV × HA) : Nat → List iV → HA → Option (Option iV × HA) := fun j as h => @ite _ (j = j0 ∧ as = as0 ∧ h = h0) (Classical.propDecidable _) (some o0) none
theorem coneA_at {j0 : Nat} {as0 : List iV} {h0 : HA} {o0 : Option iV × HA} : coneA j0 as0 h0 o0 j0 as0 h0 = some o0 := by
  unfold coneA
  rw [if_pos ⟨rfl, rfl, rfl⟩]
theorem coneA_eq {j0 : Nat} {as0 : List iV} {h0 : HA} {o0 : Option iV × HA} {j : Nat} {as : List iV} {h : HA} {o : Option iV × HA} (hh : coneA j0 as0 h0 o0 j as h = some o) : j = j0 ∧ as = as0 ∧ h = h0 ∧ o = o0 := by
  unfold coneA at hh
  split at hh
  · rename_i q
    cases hh
    exact ⟨q.1, q.2.1, q.2.2, rfl⟩
  · cases hh
theorem csA_none {l : Launch} {D : va_G} {ca : Nat → ClassId} {rho : Nat → Int32} {base bs : Nat} {scr : Nat × (Nat → Int32)} {d : Nat} : csA l D ca rho base bs scr (fun _ _ _ => none) d := fun _ _ _ _ hh => by cases hh
theorem csA_iMet0 {l : Launch} {D : va_G} {ca : Nat → ClassId} {rho : Nat → Int32} {base bs : Nat} {scr : Nat × (Nat → Int32)} {F d : Nat} : csA l D ca rho base bs scr (iMet (hopA scr) tgT mthT F 0) d := fun _ _ _ _ hh => by cases hh
theorem csA_obj {l : Launch} {D : va_G} {ca : Nat → ClassId} {rho : Nat → Int32} {base bs : Nat} {scr : Nat × (Nat → Int32)} {d : Nat} {t i : Nat} {h : HA} : csA l D ca rho base bs scr (coneA 0 [vR t i] h (none, h)) d := fun j as h1 o hh => by
  obtain ⟨rfl, rfl, rfl, rfl⟩ := coneA_eq hh
  exact ⟨leA.rf, fun _ => ⟨⟨_, rfl⟩, rfl⟩, fun h => absurd rfl h⟩
theorem csA_one {l : Launch} {D : va_G} {ca : Nat → ClassId} {rho : Nat → Int32} {base bs : Nat} {scr : Nat × (Nat → Int32)} {d : Nat} {j own rk nL sf : Nat} {cd : List iE} {y : MethodName} {bytes : ByteArray} {ret : Option FieldType} (hm : mthT j = some (own, rk, nL, sf, cd)) (hy : yT j = some (y, bytes, ret)) {as : List iV} {h : HA} {o : Option iV × HA} (hj : j ≠ 0) (h1 : iRcv sf own as = true) (h2 : rcvA as h = true) (hle : leA h o.2)
    (hM : Met l y (wsT y bytes nL ret) (rmA d (o.2.length - h.length) (nsz o.2 - nsz h)) (preA D ca rho base bs scr as h) (postA D ca rho base bs o) (o.2.length - h.length) (nsz o.2 - nsz h) (fun q => base ≤ q)) : csA l D ca rho base bs scr (coneA j as h o) d := fun j' as' h' o' hh => by
  obtain ⟨rfl, rfl, rfl, rfl⟩ := coneA_eq hh
  obtain ⟨y', bytes', ret', hy', -, -, hcn, -, hnL, -, -, -⟩ := meth_ok hm
  cases hy.symm.trans hy'
  exact ⟨hle, fun q => absurd q hj, fun _ _ => ⟨own, rk, nL, sf, cd, y, bytes, ret, hm, hy, h1, h2, hnL, hcn, hM⟩⟩
section goRules
variable {Hp : Type} {hop : Nat → iI → List iV → Hp → Option (List iV × Hp)} {tg : Nat → Nat → Option (Nat × Nat)} {call : Nat → List iV → Hp → Option (Option iV × Hp)} {own rk : Nat} {cd : List iE}
theorem go_icmp {k : Jvm.ClassFile.Cond} {pc n t : Nat} {off : Int} {x a b : Int32} {ls : iL} {st : List iV} {h : Hp} {v : Bool} (hl : iLk cd pc = some (.if_icmp k off, n, [t], x)) (hc : iCmp k a b = v) : iGo hop tg call own rk cd 1 (pc, ls, vI b :: vI a :: st) h = some ((cond v t (pc + 3), ls, st), h) := by
  unfold iGo
  dsimp only
  rw [hl]
  dsimp only
  rw [show iRet rk (.if_icmp k off) (vI b :: vI a :: st) = none from rfl]
  dsimp only
  unfold iOne
  cases v with
  | true => simp only [iStp, iBr2, hc, iGo, cond]
  | false => simp only [iStp, iBr2, hc, iGo, cond]
theorem go_call {pc n k j nn : Nat} {i : iI} {ts : iX} {r : Option iV} {ls : iL} {st as rest : List iV} {h h' : Hp} (hl : iLk cd pc = some (i, nn, ts)) (hr : iRet rk i st = none) (h1 : iStp i ts (pc, ls, st) = none) (h2 : hop own i st h = none) (h3 : iInv i = some k) (h4 : tg own k = some (j, n)) (h5 : (iOkS (st.drop n) 8 && Nat.ble n st.length) = true)
    (ha : (st.take n).reverse = as) (hd : r.toList ++ st.drop n = rest) (hE : call j as h = some (r, h')) : iGo hop tg call own rk cd 1 (pc, ls, st) h = some ((pc + 3, ls, rest), h') := by
  subst ha
  subst hd
  unfold iGo
  dsimp only
  rw [hl]
  dsimp only
  rw [hr]
  dsimp only
  unfold iOne
  rw [h1]
  dsimp only
  rw [h2]
  dsimp only
  rw [h3]
  dsimp only
  rw [h4]
  dsimp only
  rw [h5]
  dsimp only
  rw [hE]
  rfl
end goRules
/-- what a family of places of a body is closed under -/
def clA (l : Launch) (D : va_G) (ca : Nat → ClassId) (rho : Nat → Int32) (base bs : Nat) (scr : Nat × (Nat → Int32)) (own rk : Nat) (cd : List iE) (d : Nat) (o : Option iV × HA) (P : iC → HA → Prop) : Prop :=
  (∀ (call : Nat → List iV → HA → Option (Option iV × HA)) (f : Nat) (k : iC) (h : HA) (kZ : iC) (hZ : HA), csA l D ca rho base bs scr call d → leA hZ o.2 → iGo (hopA scr) tgT call own rk cd f k h = some (kZ, hZ) → P kZ hZ → P k h) ∧
  (∀ (call : Nat → List iV → HA → Option (Option iV × HA)) (f : Nat) (k : iC) (h : HA), csA l D ca rho base bs scr call d → iRun (hopA scr) tgT call own rk cd f k h = some o → P k h) ∧
  (∀ (pc : Nat) (ls ls' : iL) (st st' : List iV) (h : HA), st.map (iTv (adA base bs) rho) = st'.map (iTv (adA base bs) rho) → swL (iTv (adA base bs) rho) ls ls' → P (pc, ls', st') h → P (pc, ls, st) h)
section aMet4
variable {D : va_G} {ca : Nat → ClassId} {rho : Nat → Int32} {base bs : Nat} {scr : Nat × (Nat → Int32)}
set_option maxHeartbeats 2000000 in
theorem so_metG (l : Launch) (hbs : bs < base) {d : Nat} {j own rk nL sf : Nat} {cd : List iE} {y : MethodName} {bytes : ByteArray} {ret : Option FieldType} (hm : mthT j = some (own, rk, nL, sf, cd)) (hy : yT j = some (y, bytes, ret)) {as : List iV} {ls : iL} {h : HA} {o : Option iV × HA} (he : iEntry as nL = some ls)
    (hC : ∀ P : iC → HA → Prop, clA l D ca rho base bs scr own rk cd d o P → P (0, ls, []) h) : Met l y (wsT y bytes nL ret) (rmA (d + 1) (o.2.length - h.length) (nsz o.2 - nsz h)) (preA D ca rho base bs scr as h) (postA D ca rho base bs o) (o.2.length - h.length) (nsz o.2 - nsz h) (fun q => base ≤ q) := by
  obtain ⟨y', bytes', ret', hy', hcode, hpl, hcn, hrk, hnL, hmh, hdec, hlk⟩ := meth_ok hm
  cases hy.symm.trans hy'
  refine Met_ofWF (cc := bytes) (maxL := nL) (ret := ret) hpl rfl ?_
  intro p e s m args below meth c s₁ B hml hp
  obtain ⟨rfl, hP, hsz, hkk⟩ := hp
  have hts := atoms_spec (ws := wsT y bytes nL ret) B.pre
  have hown : s.vm.findClass (cn own) = some m.cls := by
    rw [← hcn]
    exact findClass_of_methodNamed B.named
  have hTs : ∀ w ∈ tbG, w ∈ wsT y bytes nL ret := fun w hw => List.mem_cons_of_mem _ hw
  rw [lg_entry_eq]
  have := hC (fun k h1 => (h.length ≤ h1.length ∧ nsz h ≤ nsz h1) → ∀ (H : Heap) (locs : List Loc) (lsM : Array Slot), stA D (adA base bs) rho ca base s h1 H locs → iFr (iTv (adA base bs) rho) k.2.1 lsM nL → W p l e (headSpec (wsT y bytes nL ret) (rmA (d + 1) (o.2.length - h.length) (nsz o.2 - nsz h))).room s m (as.map (iTv (adA base bs) rho)).toArray below meth c H locs (h1.length - h.length) (nsz h1 - nsz h) (MQ below (postA D ca rho base bs o) (as.map (iTv (adA base bs) rho)).toArray s (o.2.length - h.length) (nsz o.2 - nsz h) (fun q => base ≤ q)) (F0 m k.1 lsM (k.2.2.map (iTv (adA base bs) rho)))) ⟨?_, ?_, ?_⟩ ⟨Nat.le_refl _, Nat.le_refl _⟩ s.heap [] _ ⟨hP, va_S.rf⟩ (iFr_entry he)
  · rw [Nat.sub_self, Nat.sub_self] at this
    exact this
  · intro call f k h1 kZ hZ hcs hlo hgo hPZ hv H locs lsM hST hF
    have hle := leA_go (fun j as h o hc => (hcs j as h o hc).1) hgo
    exact so_goA (d := d) hbs hsz B.exec B.bytes hml hown hts hTs hkk hm hy (name_of_methodNamed B.named B.method).1 (Nat.le_refl _) (Nat.le_refl _) hcs kZ hZ (Nat.sub_le_sub_right hlo.1 _) (Nat.sub_le_sub_right hlo.2 _) (fun H locs lsM hv hST hF => hPZ hv H locs lsM hST hF) f k h1 hgo hv H locs lsM hST hF
  · intro call f k h1 hcs hrun hv H locs lsM hST hF
    exact so_runA (e := e) (below := below) (n0 := h.length) (z0 := nsz h) (d := d) hbs hsz B.exec B.bytes hml hown hts hTs hkk hm hy (name_of_methodNamed B.named B.method).1 (Nat.le_refl _) (Nat.le_refl _) hcs o (Nat.le_refl _) (Nat.le_refl _)
      (fun i n k h2 r ho hrt hd hn hv H locs lsM hST => so_endA B.exec B.bytes B.notSynchronized B.returns hrk hsz o i n k h2 r ho hrt hd hn hv H locs lsM hST) f k h1 hrun hv H locs lsM hST hF
  · intro pc ls1 ls2 st st' h1 hst hsw hPk hv H locs lsM hST hF
    have := hPk hv H locs lsM hST (swL_fr hsw hF)
    dsimp only at this ⊢
    rw [hst]
    exact this
/-- the two leaves of Math -/
theorem mt_max (l : Launch) (hbs : bs < base) {d : Nat} (a b : Int32) (h : HA) : csA l D ca rho base bs scr (coneA 158 [vI a, vI b] h (some (vI (f_Math_max a b)), h)) (d + 1) := by
  have hE : EvB (hopA scr) tgT mthT 0 14 1 cd_Math_max (0, [some (vI a), some (vI b)], []) h (some (vI (f_Math_max a b)), h) := by
    unfold f_Math_max
    refine ev_steps 2 (c' := (2, [some (vI a), some (vI b)], [vI b, vI a])) (h' := h) rfl ?_
    refine ev_icmp_lt rfl (fun hc => ?_) (fun hc => ?_)
    · rw [if_pos hc]
      refine ev_steps 1 (c' := (10, [some (vI a), some (vI b)], [vI b])) (h' := h) rfl ?_
      exact ev_ret rfl rfl
    · rw [if_neg hc]
      refine ev_steps 2 (c' := (10, [some (vI a), some (vI b)], [vI a])) (h' := h) rfl ?_
      exact ev_ret rfl rfl
  obtain ⟨F, f, hr⟩ := hE
  exact csA_one (j := 158) (own := 14) (rk := 1) (nL := 2) (sf := 1) (cd := cd_Math_max) rfl rfl (by decide) rfl rfl leA.rf (so_metA1 l hbs csA_iMet0 (j := 158) rfl rfl rfl hr)
theorem mt_min (l : Launch) (hbs : bs < base) {d : Nat} (a b : Int32) (h : HA) : csA l D ca rho base bs scr (coneA 159 [vI a, vI b] h (some (vI (f_Math_min a b)), h)) (d + 1) := by
  have hE : EvB (hopA scr) tgT mthT 0 14 1 cd_Math_min (0, [some (vI a), some (vI b)], []) h (some (vI (f_Math_min a b)), h) := by
    unfold f_Math_min
    refine ev_steps 2 (c' := (2, [some (vI a), some (vI b)], [vI b, vI a])) (h' := h) rfl ?_
    refine ev_icmp_gt rfl (fun hc => ?_) (fun hc => ?_)
    · rw [if_pos hc]
      refine ev_steps 1 (c' := (10, [some (vI a), some (vI b)], [vI b])) (h' := h) rfl ?_
      exact ev_ret rfl rfl
    · rw [if_neg hc]
      refine ev_steps 2 (c' := (10, [some (vI a), some (vI b)], [vI a])) (h' := h) rfl ?_
      exact ev_ret rfl rfl
  obtain ⟨F, f, hr⟩ := hE
  exact csA_one (j := 159) (own := 14) (rk := 1) (nL := 2) (sf := 1) (cd := cd_Math_min) rfl rfl (by decide) rfl rfl leA.rf (so_metA1 l hbs csA_iMet0 (j := 159) rfl rfl rfl hr)
end aMet4
