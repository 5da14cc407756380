/-! Every method over the static heap meets its contract. -/
theorem nw_form : ∀ w ∈ nwL, ∃ a i x h, w = Cond.methodLinkNest a i x h := by
  intro w hw
  simp only [nwL, List.mem_cons, List.not_mem_nil, or_false] at hw
  rcases hw with rfl | rfl | rfl | rfl | rfl | rfl | rfl | rfl | rfl | rfl | rfl <;> exact ⟨_, _, _, _, rfl⟩
theorem Met_ofWF {l : Launch} {y : MethodName} {ws ws' : List Cond} {rm : Room} {Pc : Array Value → State → Prop} {Qc : Array Value → State → Outcome → State → Prop} {mc ms : Nat} {free : Addr → Prop} {cc : ByteArray} {maxL : Nat} {ret : Option FieldType}
    (hy : plainFor y = true) (hw : ws = Cond.code y cc maxL ret :: ws')
    (body : ∀ p e s m args below meth c s₁, BodyLoose p l y (headSpec ws rm) cc maxL ret e s m args below meth c s₁ → c.maxLocals = maxL → Pc args s →
      W p l e (headSpec ws rm).room s m args below meth c s.heap [] 0 0 (MQ below Qc args s mc ms free) (entryFrame m args maxL)) : Met l y ws rm Pc Qc mc ms free := by
  refine MetFree.of_bodySF (code := cc) (maxLocals := maxL) (ret := ret) hy ?_ ?_
  · intro args s m h hn
    obtain ⟨meth, c, h1, h2, h3, h4, h5, h6, -, -⟩ := Cond.code_spec hn (atoms_spec (ws := ws) h _ (by rw [hw]; exact List.mem_cons_self))
    exact ⟨meth, c, h1, h2, h3, h4, h5, h6⟩
  · intro p e s m args below meth c s₁ B hml hP _
    have hh0 : s₁.heap = s.heap := by rw [B.state]; rfl
    obtain ⟨t, a1, o, b1, b2, b3⟩ := body p e s m args below meth c s₁ B hml hP s₁ hh0 (Stand.of_body B)
    exact ⟨t, o, a1, b1, b2, ⟨b3.1, b3.2⟩⟩
set_option maxRecDepth 100000 in
theorem tj_ok : (List.range 15).all (fun own => (lnL.getD own []).all (fun q => Nat.blt q.2.1 160)) = true := by decide +kernel
theorem link_lt {own kx j nn : Nat} (h : tgT own kx = some (j, nn)) : j < 160 := by
  obtain ⟨kd, p1, p2, p3, p4, hln, -, -⟩ := link_ok h
  have hm := iLk2_mem hln
  have hown : own < 15 := by
    apply Classical.byContradiction
    intro hn
    have : lnL.getD own [] = [] := by
      rw [List.getD_eq_getElem?_getD, List.getElem?_eq_none (show lnL.length ≤ own from Nat.le_trans (by decide) (Nat.le_of_not_lt hn))]
      rfl
    rw [this] at hm
    cases hm
  exact Nat.blt_eq.mp (List.all_eq_true.mp (List.all_eq_true.mp tj_ok own (List.mem_range.mpr hown)) _ hm)
theorem cs_in {w : Cond} (h : w ∈ csL) : w ∈ tbG := by
  obtain ⟨n, hn⟩ := List.getElem?_of_mem h
  have hlt : n < csP.length := Nat.lt_of_lt_of_le (List.getElem?_eq_some_iff.mp hn).1 (by decide)
  have hz : (csL.zip csP)[n]? = some (w, csP[n]) := List.getElem?_zip_eq_some.mpr ⟨hn, List.getElem?_eq_getElem hlt⟩
  have h1 := List.all_eq_true.mp cs_ok _ (List.mem_of_getElem? hz)
  rw [Bool.and_eq_true] at h1
  exact tbG_of (of_decide_eq_true h1.1) h1.2
set_option maxRecDepth 100000 in
theorem mo_ok : mthL.all (fun m => !Nat.beq m.2.2.2.1 0 || Nat.blt m.1 13) = true := by decide +kernel
theorem meth_lt {j own rk nL : Nat} {cd : List iE} (h : mthT j = some (own, rk, nL, 0, cd)) : own < 13 := by
  cases j with
  | zero => cases h
  | succ k =>
    have h : mthL[k]? = some (own, rk, nL, 0, cd) := h
    have := List.all_eq_true.mp mo_ok _ (List.mem_of_getElem? h)
    simp only [Bool.or_eq_true, Nat.blt_eq] at this
    rcases this with q | q
    · cases q
    · exact q
theorem iEntry_mem : ∀ {as : List iV} {n : Nat} {ls : iL}, iEntry as n = some ls → ∀ {k : Nat} {v : iV}, iGet ls k = some v → v ∈ as := by
  intro as
  induction as with
  | nil =>
    intro n ls h k v hg
    cases h
    exfalso
    induction n generalizing k with
    | zero => cases hg
    | succ n ih2 =>
      cases k with
      | zero => cases hg
      | succ k => exact ih2 hg
  | cons a r ih =>
    intro n ls h k v hg
    cases n with
    | zero => cases h
    | succ n =>
      unfold iEntry at h
      split at h
      · cases h
      · split at h
        · cases h
        · rename_i l2 h2
          cases h
          cases k with
          | zero => cases hg; exact List.mem_cons_self
          | succ k => exact List.mem_cons_of_mem _ (ih h2 hg)
theorem obj_code : Cond.code Lib.objectInit ⟨#[0xb1]⟩ 1 none ∈ lw_tbl := by decide +kernel
def rmT (d : Nat) : Room := { frames := d, cells := 0, slots := 0, locals := 40 * d }
def kkS (D : va_G) (ca : Nat → ClassId) (bs : Nat) (scr : Nat × (Nat → Int32)) (U : State) : Prop := va_K D vwC (tysS ca) U ∧ (∀ w ∈ nwL, va_Nw w U) ∧ va_X bs scr.1 scr.2 U U.heap
def okO (o : Option iV × SS) : Prop := ∀ t i, o.1 = some (vR t i) → okR t i
def preS (D : va_G) (ad : Nat → Nat → Nat) (ca : Nat → ClassId) (rho : Nat → Int32) (A : Nat → Prop) (bs : Nat) (scr : Nat × (Nat → Int32)) (as : List iV) (S : SS) : Array Value → State → Prop := fun v U => v = (as.map (iTv ad rho)).toArray ∧ va_P D vwC (wS ad ca S) U.heap ∧ va_D A (wS ad ca S) ∧ kkS D ca bs scr U
def postS (D : va_G) (ad : Nat → Nat → Nat) (ca : Nat → ClassId) (rho : Nat → Int32) (A : Nat → Prop) (o : Option iV × SS) : Array Value → State → Outcome → State → Prop := fun _ st oc t => oc = .returned (o.1.map (iTv ad rho)) ∧ va_P D vwC (wS ad ca o.2) t.heap ∧ va_D A (wS ad ca o.2) ∧ okO o ∧ va_F A st t
section sMet
variable {D : va_G} {ad : Nat → Nat → Nat} {ca : Nat → ClassId} {rho : Nat → Int32} {A : Nat → Prop} {bs : Nat} {scr : Nat × (Nat → Int32)}
theorem kkS.warm {s U : State} (h : kkS D ca bs scr s) (hW : s.WarmedH U.vm) (hh : U.heap[bs]? = s.heap[bs]?) : kkS D ca bs scr U := by
  obtain ⟨h1, h2, h3⟩ := h
  refine ⟨va_K.moved hW.alike h1, fun w hw => ?_, va_X.moved hW.alike (h3.kept hh)⟩
  obtain ⟨a, i, x, hst, rfl⟩ := nw_form w hw
  exact va_Nw.warmM hW (h2 _ hw)
theorem pre_blind (as : List iV) (S : SS) : FrameBlind (preS D ad ca rho A bs scr as S) := by
  intro a U g mk q
  obtain ⟨q0, q1, q2, q3, q4, q5⟩ := q
  refine ⟨q0, q1, q2, va_K.moved (u := U) (U := U.calling g mk a) (Vm.Alike.refl U.vm) q3, fun w hw => ?_, va_X.moved (u := U) (U := U.calling g mk a) (Vm.Alike.refl U.vm) q5⟩
  obtain ⟨x1, x2, x3, x4, rfl⟩ := nw_form w hw
  exact va_Nw.same rfl rfl (q4 _ hw)
theorem kkS.lt {s : State} (h : kkS D ca bs scr s) : bs < s.heap.size := by
  obtain ⟨c, h1, -⟩ := h.2.2
  exact (Array.getElem?_eq_some_iff.mp h1).1
theorem so_pre {s : State} {S : SS} {H : Heap} {locs : List Loc} (hST : stS D ad ca A s S H locs) (hkk : kkS D ca bs scr s) (hbA : ¬ A bs) (as : List iV) (U : State) (hU : U.heap = H) (hW : s.WarmedH U.vm) : preS D ad ca rho A bs scr as S (as.map (iTv ad rho)).toArray U := by
  refine ⟨rfl, by rw [hU]; exact hST.1, hST.2.1, hkk.warm hW ?_⟩
  rw [hU]
  exact hST.2.2.2.1 bs hkk.lt hbA
section
variable {p : Program} {l : Launch} {e : Env} {R : Room} {s : State} {m : MethodId} {args : Array Value} {below : List Frame} {meth : Method} {c : Code} {H : Heap} {locs : List Loc} {Q : State → Prop} {cells slots : Nat}
theorem so_ret {pc : Nat} {lsM : Array Slot} {st0 rest : List Value} {a : Array Value} {o : Option iV × SS} (hr : va_Run p l e R s m args below meth c H locs cells slots 0 0 (F0 m pc lsM st0) rest (postS D ad ca rho A o a) A) (hS : va_S A s.heap H locs)
    (kk : ∀ (H1 : Heap) (locs1 : List Loc), okO o → stS D ad ca A s o.2 H1 locs1 → W p l e R s m args below meth c H1 locs1 cells slots Q (F0 m (pc + 3) lsM ((o.1.map (iTv ad rho)).toList ++ rest))) : W p l e R s m args below meth c H locs cells slots Q (F0 m pc lsM st0) := by
  intro T hT X
  obtain ⟨v, st₀, t, T', L, h0, X', hL, e1, e2, ⟨hv, hP, hD, hok, hz, hk⟩, st⟩ := hr T hT X
  cases hv
  rw [h0] at hz hk
  obtain ⟨t2, a1, b1⟩ := kk T'.heap (locs ++ L) hok ⟨by rw [e1]; exact hP, hD, Nat.le_trans hS.1 (by rw [e1]; exact hz), fun q h1 h2 => by rw [e1, hk q (Nat.lt_of_lt_of_le h1 hS.1) h2]; exact hS.2.1 q h1 h2, fun q hq => by
      rcases List.mem_append.mp hq with h | h
      · exact hS.2.2 q h
      · exact hL q h⟩ T' rfl X'
  exact ⟨t2, st t2 a1, b1⟩
end
set_option maxHeartbeats 4000000 in
theorem so_callS {p : Program} {l : Launch} {e : Env} {R : Room} {s : State} {m : MethodId} {args : Array Value} {below : List Frame} {meth : Method} {c : Code} {Q : State → Prop} {cells slots : Nat} {cc : ByteArray} {Ts : List Cond} {own nL : Nat} {cd : List iE} {F d : Nat} (hbA : ¬ A bs)
    (hx : p.tables.exec = Jvm.exec) (hb : c.code = cc) (hml : c.maxLocals = nL) (hown : s.vm.findClass (cn own) = some m.cls) (hts : ∀ w ∈ Ts, w.before args s = true) (hTs : ∀ w ∈ tbG, w ∈ Ts) (hkk : kkS D ca bs scr s) (hlk : ∀ q ∈ cd, lkB own q.2.1 q.2.2.2.2 = true)
    (hRf : d + 1 ≤ R.frames) (hRl : 40 * (d + 1) ≤ R.locals) (hcs : cells + 0 ≤ R.cells ∧ slots + 0 ≤ R.slots)
    (ih : ∀ (j : Nat) (as : List iV) (S : SS) (o : Option iV × SS), iMet (hopS scr) tgT mthT F d j as S = some o → j ≠ 0 → j ≠ 160 → (∀ t i, vR t i ∈ as → okR t i) →
      ∃ own rk nL sf cd y bytes ret, mthT j = some (own, rk, nL, sf, cd) ∧ yT j = some (y, bytes, ret) ∧ iRcv sf own as = true ∧ nL ≤ 21 ∧ y.cls = cn own ∧ Met l y (wsT y bytes nL ret) (rmT d) (preS D ad ca rho A bs scr as S) (postS D ad ca rho A o) 0 0 A)
    (i : iI) (n kx j2 nn : Nat) (k : iC) (r : Option iV) (S1 S2 : SS) (hi : iInv i = some kx) (ht : tgT own kx = some (j2, nn)) (hok8 : (iOkS (k.2.2.drop nn) 8 && Nat.ble nn k.2.2.length) = true) (hc : iMet (hopS scr) tgT mthT F d j2 (k.2.2.take nn).reverse S1 = some (r, S2)) (hd : decode cc k.1 = .ok (i, n)) (hmem : ∃ tx, (k.1, i, n, tx) ∈ cd) (hn : iIsSw i = true ∨ n = iLen i) (hv : vkS k)
    (H : Heap) (locs : List Loc) (lsM : Array Slot) (hsz : lsM.size = nL) (hST : stS D ad ca A s S1 H locs)
    (kk : ∀ (H1 : Heap) (locs1 : List Loc), vkS (k.1 + 3, k.2.1, r.toList ++ k.2.2.drop nn) → stS D ad ca A s S2 H1 locs1 → W p l e R s m args below meth c H1 locs1 cells slots Q (F0 m (k.1 + 3) lsM ((r.toList ++ k.2.2.drop nn).map (iTv ad rho)))) :
    W p l e R s m args below meth c H locs cells slots Q (F0 m k.1 lsM (k.2.2.map (iTv ad rho))) := by
  rw [Bool.and_eq_true] at hok8
  have hlkq : ∃ v, lkB own i v = true := by
    obtain ⟨tx, htx⟩ := hmem
    exact ⟨_, hlk _ htx⟩
  obtain ⟨vq, hlkq⟩ := hlkq
  obtain rfl : n = 3 := by
    rcases hn with q | q
    · cases i <;> first | (cases hi; done) | (cases q; done)
    · rw [q]
      cases i <;> first | rfl | cases hi
  have hroom : (((k.2.2.drop nn).map (iTv ad rho)).map fun v => v.category).sum ≤ 8 := iOkS_sum (fun v hv => iTv_cat1 hv) hok8.1
  have hlen : ((k.2.2.take nn).reverse).length = nn := by
    rw [List.length_reverse, List.length_take]
    have := Nat.ble_eq.mp hok8.2
    omega
  have hst : k.2.2.map (iTv ad rho) = (((k.2.2.take nn).reverse).map (iTv ad rho)).reverse ++ (k.2.2.drop nn).map (iTv ad rho) := by
    rw [← List.map_reverse, List.reverse_reverse, ← List.map_append, List.take_append_drop]
  have hva : ∀ t i, vR t i ∈ (k.2.2.take nn).reverse → okR t i := fun t i hq => hv.1 t i (List.mem_of_mem_take (List.mem_reverse.mp hq))
  by_cases hj0 : j2 = 0
  · subst hj0
    obtain ⟨kd, p1, p2, p3, p4, hln, hlB, -⟩ := link_ok ht
    unfold lnB at hlB
    dsimp only at hlB
    split at hlB
    · simp only [Bool.and_eq_true, decide_eq_true_eq] at hlB
      obtain ⟨w1, w2, -, w4⟩ := hlB
      obtain rfl : nn = 1 := Nat.eq_of_beq_eq_true w4
      cases d with
      | zero => cases hc
      | succ d =>
        unfold iMet at hc
        dsimp only at hc
        split at hc
        · rename_i q0 heq
          cases hc
          obtain ⟨pc, ls1, st1⟩ := k
          cases st1 with
          | nil => cases heq
          | cons a rest =>
            have heq : [a] = [Sum.inr (Sum.inr (Sum.inl (some q0)))] := heq
            cases heq
            obtain ⟨t0, i0⟩ := q0
            unfold iInv at hi
            split at hi
            · have hlkq : (match lnO own _ with | some q => Nat.beq q.2.2.1 0 | none => false) = true := hlkq
              cases hi
              rw [hln] at hlkq
              cases hlkq
            · cases hi
              refine W.objInit hx hb hown (hts _ (hTs _ (tbG_of w1 rfl))) (hts _ (hTs _ (tbG_of w2 rfl))) (hts _ (hTs _ (List.mem_filter.mpr ⟨obj_code, rfl⟩))) rfl (hsz.trans hml.symm) rfl hd (by omega) ?_ (kk H locs (vk_tail hv) hST)
              have h8 : ((rest.map (iTv ad rho)).map fun v => v.category).sum ≤ 8 := hroom
              show 2 * 0 + ((rest.map (iTv ad rho)).map fun v => v.category).sum + 12 ≤ R.locals
              omega
            · have hlkq : (match lnO own _ with | some q => Nat.beq q.2.2.1 3 || Nat.beq q.2.2.1 5 | none => false) = true := hlkq
              cases hi
              rw [hln] at hlkq
              cases hlkq
            · cases hi
        · cases hc
    · cases hlB
  · obtain ⟨own', rk', nL', sf', cd', y', bytes', ret', hm', hy', hrcv, hnL', hcn', hM⟩ := ih j2 _ S1 (r, S2) hc hj0 (by have := link_lt ht; omega) hva
    have hrun := so_run (l := l) (e := e) (below := below) (meth := meth) (locs := locs) (cells := cells) (slots := slots) (lsM := lsM) hx hb hml hown hts hTs hkk.2.1 hi ht hlkq hj0 (by have := link_lt ht; omega) hm' hy' hM rfl rfl ⟨hRf, by show 8 + (nL' + 11) + 40 * d ≤ R.locals; omega⟩ hst (by rw [List.length_map]; exact hlen) hroom (pre_blind _ _) (so_pre hST hkk hbA _) ?_ hsz hd hcs
    · refine so_ret hrun hST.2.2 (fun H1 locs1 hok hST1 => ?_)
      have hk2 := kk H1 locs1 ⟨fun t i hq => ?_, hv.2⟩ hST1
      · have e1 : (r.toList ++ k.2.2.drop nn).map (iTv ad rho) = (r.map (iTv ad rho)).toList ++ (k.2.2.drop nn).map (iTv ad rho) := by
          cases r <;> rfl
        rw [e1] at hk2
        exact hk2
      · rcases List.mem_append.mp hq with hq | hq
        · exact hok t i (by cases r with | none => cases hq | some w => rw [List.mem_singleton.mp hq])
        · exact hv.1 t i (List.mem_of_mem_drop hq)
    · intro hsf
      subst hsf
      have hrcv : (match (k.2.2.take nn).reverse with | Sum.inr (Sum.inr (Sum.inl (some (t, _)))) :: _ => Nat.beq t own' | _ => false) = true := hrcv
      split at hrcv
      · rename_i t i2 as' heq
        obtain rfl : t = own' := Nat.eq_of_beq_eq_true hrcv
        have hok : okR t i2 := hva t i2 (by rw [heq]; exact List.mem_cons_self)
        refine ⟨ad t i2, as'.map (iTv ad rho), by rw [heq]; rfl, ?_⟩
        have ho : (t, i2) ∈ OB ∧ t < 13 := by
          have h13 := meth_lt hm'
          refine ⟨?_, h13⟩
          rcases hok with hok | ⟨rfl, -⟩
          · exact hok
          · omega
        obtain ⟨q0, hq0⟩ := OB_at ho.1
        have hat := wS_at (ad := ad) (ca := ca) (S := S1) hq0
        rw [cS_obj (by omega)] at hat
        have hvn := List.all_eq_true.mp vn_ok t (List.mem_range.mpr ho.2)
        cases hvc : vwC[t]? with
        | none => rw [hvc] at hvn; cases hvn
        | some qv =>
          rw [hvc] at hvn
          have := va_recv hkk.1 hST.1 hvc hat
          rw [hcn', ← of_decide_eq_true hvn]
          exact this
      · cases hrcv
set_option maxHeartbeats 4000000 in
theorem so_met (l : Launch) (hbA : ¬ A bs) (had : ad 63 0 = bs) (F : Nat) : ∀ (d j : Nat) (as : List iV) (S : SS) (o : Option iV × SS), iMet (hopS scr) tgT mthT F d j as S = some o → j ≠ 0 → j ≠ 160 → (∀ t i, vR t i ∈ as → okR t i) →
    ∃ own rk nL sf cd y bytes ret, mthT j = some (own, rk, nL, sf, cd) ∧ yT j = some (y, bytes, ret) ∧ iRcv sf own as = true ∧ nL ≤ 21 ∧ y.cls = cn own ∧ Met l y (wsT y bytes nL ret) (rmT d) (preS D ad ca rho A bs scr as S) (postS D ad ca rho A o) 0 0 A := by
  intro d
  induction d with
  | zero => intro j as S o h; cases h
  | succ d ih =>
    intro j as S o h hj h160 hv
    cases j with
    | zero => exact absurd rfl hj
    | succ j =>
      unfold iMet at h
      dsimp only at h
      split at h
      · cases h
      · rename_i own rk nL sf cd hm
        split at h
        · cases h
        · rename_i hrc
          split at h
          · cases h
          · rename_i ls he
            obtain ⟨y, bytes, ret, hy, hcode, hpl, hcn, hrk, hnL, hmh, hdec, hlk⟩ := meth_ok hm
            refine ⟨own, rk, nL, sf, cd, y, bytes, ret, hm, hy, hrc, hnL, hcn, ?_⟩
            refine Met_ofWF (cc := bytes) (maxL := nL) (ret := ret) hpl rfl ?_
            intro p e s m args below meth c s₁ B hml hp
            obtain ⟨rfl, hP, hD, hkk⟩ := hp
            have hx := B.exec
            have hb := B.bytes
            have hr := B.returns
            have hts := atoms_spec (ws := wsT y bytes nL ret) B.pre
            have hown : s.vm.findClass (cn own) = some m.cls := by
              rw [← hcn]
              exact findClass_of_methodNamed B.named
            have hlocks := B.notSynchronized
            have hTs : ∀ w ∈ tbG, w ∈ wsT y bytes nL ret := fun w hw => List.mem_cons_of_mem _ hw
            rw [lg_entry_eq]
            refine snd_run (hop := hopS scr) (tg := tgT) (call := iMet (hopS scr) tgT mthT F d) (ST := stS D ad ca A s) (vk := fun _ k => vkS k) (cf := fun _ => (0, 0)) (nL := nL) (ad := ad) (rho := rho) (own := own) (rk := rk) (cd := cd) (cc := bytes) o hx hb hdec ?_ ?_ (fun i ts k k' _ hs hv => vk_stp hs hv) ?_ ?_ ?_ F (0, ls, []) S h ?_ s.heap [] _ ⟨hP, hD, va_S.rf⟩ (iFr_entry he)
            · intro q hq x hqx
              have := hlk q hq
              rw [hqx] at this
              exact ⟨cn own, hown, hts _ (hTs _ (cs_in (of_decide_eq_true this)))⟩
            · intro q hq x hqx
              have := hlk q hq
              rw [hqx] at this
              exact ⟨cn own, hown, hts _ (hTs _ (cs_in (of_decide_eq_true this)))⟩
            · intro i n k st' S1 S2 hh hd _ hn hv _
              have := so_hop (cells := 0) (slots := 0) (l := l) (e := e) (R := (headSpec (wsT y bytes nL ret) (rmT (d + 1))).room) (below := below) (meth := meth) (Q := MQ below (postS D ad ca rho A o) (as.map (iTv ad rho)).toArray s 0 0 A) (rho := rho) (A := A) hx hb hts hTs hown hkk.1 hkk.2.2 hkk.lt hbA had i n k st' S1 S2 hh hd hn hv
              exact ⟨this.1, fun H locs lsM _ hST kk => this.2 H locs lsM hST kk⟩
            · intro i n kx j2 nn k r S1 S2 hi ht hok8 hc hd hmem hn hv _ H locs lsM hsz hST kk
              exact so_callS (R := (headSpec (wsT y bytes nL ret) (rmT (d + 1))).room) (cells := 0) (slots := 0) hbA hx hb hml hown hts hTs hkk hlk (Nat.le_refl _) (Nat.le_refl _) ⟨Nat.le_refl _, Nat.le_refl _⟩ ih i n kx j2 nn k r S1 S2 hi ht hok8 hc hd hmem hn hv H locs lsM hsz hST kk
            · intro i n k S1 r ho hrt hd hn hv H locs lsM hST
              subst ho
              obtain ⟨pc, ls1, st1⟩ := k
              dsimp only at hrt hd ⊢
              unfold iRet at hrt
              split at hrt
              · split at hrt
                · cases hrt
                  obtain rfl : n = 1 := hn.resolve_left (fun q => by cases q)
                  have hr0 : ret = none := by
                    cases ret with
                    | none => rfl
                    | some t => cases hrk
                  exact W.vret hx hb (hr.trans hr0) (fun t ht hW => ⟨rfl, by rw [ht]; exact hST.1, hST.2.1, (fun _ _ q => by cases q), hST.2.2.F ht⟩) hST.2.2.2.2 hd
                · cases hrt
              · split at hrt
                · cases hrt
                  obtain rfl : n = 1 := hn.resolve_left (fun q => by cases q)
                  have hr0 : ret = some .int := by
                    cases ret with
                    | none => cases hrk
                    | some t => cases t <;> first | rfl | cases hrk
                  exact W.iret hx hb (hr.trans hr0) (fun t ht hW => ⟨rfl, by rw [ht]; exact hST.1, hST.2.1, (fun _ _ q => by cases q), hST.2.2.F ht⟩) hST.2.2.2.2 hd
                · split at hrt
                  · rename_i hbb
                    cases hrt
                    obtain rfl : n = 1 := hn.resolve_left (fun q => by cases q)
                    have hr0 : ret = some .boolean := by
                      cases ret with
                      | none => cases hrk
                      | some t => cases t <;> first | rfl | cases hrk
                    refine W.zret hx hb (hr.trans hr0) ?_ (fun t ht hW => ⟨rfl, by rw [ht]; exact hST.1, hST.2.1, (fun _ _ q => by cases q), hST.2.2.F ht⟩) hST.2.2.2.2 hd
                    simp only [iIsB, Bool.or_eq_true, decide_eq_true_eq] at hbb
                    rcases hbb with rfl | rfl <;> rfl
                  · cases hrt
                · cases hrt
              · split at hrt
                · cases hrt
                  obtain rfl : n = 1 := hn.resolve_left (fun q => by cases q)
                  have hr0 : ∃ C, ret = some (.object C) := by
                    cases ret with
                    | none => cases hrk
                    | some t => cases t <;> first | exact ⟨_, rfl⟩ | cases hrk
                  obtain ⟨C, hr0⟩ := hr0
                  exact W.aret hx hb (hr.trans hr0) (Or.inl ⟨C, rfl⟩) (Or.inr ⟨_, rfl⟩) (fun t ht hW => ⟨rfl, by rw [ht]; exact hST.1, hST.2.1, (fun t i q => by cases q; exact vk_head hv _ _ rfl), hST.2.2.F ht⟩) hST.2.2.2.2 hd
                · cases hrt
              · cases hrt
            · exact ⟨fun t i hq => (by cases hq), fun n t i hq => hv t i (iEntry_mem he hq)⟩
end sMet
