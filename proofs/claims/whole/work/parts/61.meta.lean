/-! Contracts over the growing heap. -/
def rcvA (as : List iV) (h : HA) : Bool := match as with
  | Sum.inr (Sum.inr (Sum.inl (some (t, i)))) :: _ => Nat.beq t 63 || (match h[i]? with
    | some (t', _) => Nat.beq t t'
    | none => false)
  | _ => true
def metA (scr : Nat × (Nat → Int32)) (F : Nat) : Nat → Nat → List iV → HA → Option (Option iV × HA)
  | 0, _, _, _ => none
  | d + 1, j, as, h => match rcvA as h with
    | false => none
    | true => match j with
      | 0 => match as with
        | [Sum.inr (Sum.inr (Sum.inl (some _)))] => some (none, h)
        | _ => none
      | k + 1 => match mthT (k + 1) with
        | none => none
        | some (own, rk, nL, sf, cd) => match iRcv sf own as with
          | false => none
          | true => match iEntry as nL with
            | none => none
            | some ls => iRun (hopA scr) tgT (metA scr F d) own rk cd F (0, ls, []) h
theorem leA_met {scr : Nat × (Nat → Int32)} {F : Nat} : ∀ {d j : Nat} {as : List iV} {h : HA} {o : Option iV × HA}, metA scr F d j as h = some o → leA h o.2 := by
  intro d
  induction d with
  | zero => intro j as h o hh; cases hh
  | succ d ih =>
    intro j as h o hh
    unfold metA at hh
    split at hh
    · cases hh
    · split at hh
      · split at hh
        · cases hh; exact leA.rf
        · cases hh
      · split at hh
        · cases hh
        · split at hh
          · cases hh
          · split at hh
            · cases hh
            · exact leA_run (fun j as h o => ih) hh
def rmA (d mc ms : Nat) : Room := { frames := d, cells := mc, slots := ms, locals := 40 * d }
def kkA (D : va_G) (ca : Nat → ClassId) (bs : Nat) (scr : Nat × (Nat → Int32)) (U : State) : Prop := kkS D ca bs scr U ∧ ∀ C ∈ aoN, va_AO C U
def preA (D : va_G) (ca : Nat → ClassId) (rho : Nat → Int32) (base bs : Nat) (scr : Nat × (Nat → Int32)) (as : List iV) (h : HA) : Array Value → State → Prop := fun v U => v = (as.map (iTv (adA base bs) rho)).toArray ∧ va_P D vwC (wA (cP (adA base bs) rho ca) base h) U.heap ∧ U.heap.size = base + h.length ∧ kkA D ca bs scr U
def postA (D : va_G) (ca : Nat → ClassId) (rho : Nat → Int32) (base bs : Nat) (o : Option iV × HA) : Array Value → State → Outcome → State → Prop := fun _ st oc t => oc = .returned (o.1.map (iTv (adA base bs) rho)) ∧ va_P D vwC (wA (cP (adA base bs) rho ca) base o.2) t.heap ∧ t.heap.size = base + o.2.length ∧ va_F (fun q => base ≤ q) st t
/-- what a table of calls must keep -/
def csA (l : Launch) (D : va_G) (ca : Nat → ClassId) (rho : Nat → Int32) (base bs : Nat) (scr : Nat × (Nat → Int32)) (call : Nat → List iV → HA → Option (Option iV × HA)) (d : Nat) : Prop := ∀ (j : Nat) (as : List iV) (h : HA) (o : Option iV × HA), call j as h = some o → leA h o.2 ∧ (j = 0 → (∃ q, as = [Sum.inr (Sum.inr (Sum.inl (some q)))]) ∧ o = (none, h)) ∧
  (j ≠ 0 → j ≠ 160 → ∃ own rk nL sf cd y bytes ret, mthT j = some (own, rk, nL, sf, cd) ∧ yT j = some (y, bytes, ret) ∧ iRcv sf own as = true ∧ rcvA as h = true ∧ nL ≤ 21 ∧ y.cls = cn own ∧
    Met l y (wsT y bytes nL ret) (rmA d (o.2.length - h.length) (nsz o.2 - nsz h)) (preA D ca rho base bs scr as h) (postA D ca rho base bs o) (o.2.length - h.length) (nsz o.2 - nsz h) (fun q => base ≤ q))
theorem sub_add3 {a b c : Nat} (h1 : c ≤ a) (h2 : a ≤ b) : a - c + (b - a) = b - c := by omega
section aMet
variable {D : va_G} {ca : Nat → ClassId} {rho : Nat → Int32} {base bs : Nat} {scr : Nat × (Nat → Int32)}
theorem kkA.warm {s U : State} (h : kkA D ca bs scr s) (hW : s.WarmedH U.vm) (hh : U.heap[bs]? = s.heap[bs]?) : kkA D ca bs scr U := ⟨h.1.warm hW hh, fun C hC => (h.2 C hC).moved hW.alike⟩
theorem preA_blind (as : List iV) (h : HA) : FrameBlind (preA D ca rho base bs scr as h) := by
  intro a U g mk q
  obtain ⟨q0, q1, q2, ⟨q3, q4, q5⟩, q6⟩ := q
  refine ⟨q0, q1, q2, ⟨va_K.moved (u := U) (U := U.calling g mk a) (Vm.Alike.refl U.vm) q3, fun w hw => ?_, va_X.moved (u := U) (U := U.calling g mk a) (Vm.Alike.refl U.vm) q5⟩, fun C hC => va_AO.moved (u := U) (U := U.calling g mk a) (Vm.Alike.refl U.vm) (q6 C hC)⟩
  obtain ⟨x1, x2, x3, x4, rfl⟩ := nw_form w hw
  exact va_Nw.same rfl rfl (q4 _ hw)
theorem so_size {s : State} {ad : Nat → Nat → Nat} {h : HA} {H : Heap} {locs : List Loc} {n0 : Nat} (hST : stA D ad rho ca base s h H locs) (hn0 : s.heap.size = base + n0) (hv : n0 ≤ h.length) (hz : H.size ≤ s.heap.size + (h.length - n0)) : H.size = base + h.length := by
  have h2 := hST.2.1
  rcases wA_len hST.1 with rfl | h1
  · simp only [List.length_nil] at hv hz ⊢
    omega
  · omega
section
variable {p : Program} {l : Launch} {e : Env} {R : Room} {s : State} {m : MethodId} {args : Array Value} {below : List Frame} {meth : Method} {c : Code} {H : Heap} {locs : List Loc} {Q : State → Prop} {cells slots mc ms : Nat}
theorem so_retA {pc : Nat} {lsM : Array Slot} {st0 rest : List Value} {a : Array Value} {o : Option iV × HA} (hr : va_Run p l e R s m args below meth c H locs cells slots mc ms (F0 m pc lsM st0) rest (postA D ca rho base bs o a) (fun q => base ≤ q)) (hS : va_S (fun q => base ≤ q) s.heap H locs)
    (kk : ∀ (H1 : Heap) (locs1 : List Loc), stA D (adA base bs) rho ca base s o.2 H1 locs1 → W p l e R s m args below meth c H1 locs1 (cells + mc) (slots + ms) Q (F0 m (pc + 3) lsM ((o.1.map (iTv (adA base bs) rho)).toList ++ rest))) : W p l e R s m args below meth c H locs cells slots Q (F0 m pc lsM st0) := by
  intro T hT X
  obtain ⟨v, st₀, t, T', L, h0, X', hL, e1, e2, ⟨hv, hP, -, hz, hk⟩, st⟩ := hr T hT X
  cases hv
  rw [h0] at hz hk
  obtain ⟨t2, a1, b1⟩ := kk T'.heap (locs ++ L) ⟨by rw [e1]; exact hP, Nat.le_trans hS.1 (by rw [e1]; exact hz), fun q h1 h2 => by rw [e1, hk q (Nat.lt_of_lt_of_le h1 hS.1) h2]; exact hS.2.1 q h1 h2, fun q hq => by
      rcases List.mem_append.mp hq with h | h
      · exact hS.2.2 q h
      · exact hL q h⟩ T' rfl X'
  exact ⟨t2, st t2 a1, b1⟩
end
set_option maxHeartbeats 4000000 in
theorem so_callA {p : Program} {l : Launch} {e : Env} {R : Room} {s : State} {m : MethodId} {args : Array Value} {below : List Frame} {meth : Method} {c : Code} {Q : State → Prop} {cc : ByteArray} {Ts : List Cond} {own nL n0 z0 : Nat} {cd : List iE} {d : Nat} {call : Nat → List iV → HA → Option (Option iV × HA)} (hbs : bs < base) (hn0 : s.heap.size = base + n0)
    (hx : p.tables.exec = Jvm.exec) (hb : c.code = cc) (hml : c.maxLocals = nL) (hown : s.vm.findClass (cn own) = some m.cls) (hts : ∀ w ∈ Ts, w.before args s = true) (hTs : ∀ w ∈ tbG, w ∈ Ts) (hkk : kkA D ca bs scr s) (hlk : ∀ q ∈ cd, lkB own q.2.1 q.2.2.2.2 = true)
    (hRf : d + 1 ≤ R.frames) (hRl : 40 * (d + 1) ≤ R.locals) (hcs : csA l D ca rho base bs scr call d)
    (i : iI) (n kx j2 nn : Nat) (k : iC) (r : Option iV) (h h' : HA) (hi : iInv i = some kx) (ht : tgT own kx = some (j2, nn)) (hok8 : (iOkS (k.2.2.drop nn) 8 && Nat.ble nn k.2.2.length) = true) (hc : call j2 (k.2.2.take nn).reverse h = some (r, h')) (hd : decode cc k.1 = .ok (i, n)) (hmem : ∃ tx, (k.1, i, n, tx) ∈ cd) (hn : iIsSw i = true ∨ n = iLen i)
    (hv : n0 ≤ h.length ∧ z0 ≤ nsz h) (hbd : h'.length - n0 ≤ R.cells ∧ nsz h' - z0 ≤ R.slots)
    (H : Heap) (locs : List Loc) (lsM : Array Slot) (hsz : lsM.size = nL) (hST : stA D (adA base bs) rho ca base s h H locs)
    (kk : ∀ (H1 : Heap) (locs1 : List Loc), (n0 ≤ h'.length ∧ z0 ≤ nsz h') → stA D (adA base bs) rho ca base s h' H1 locs1 → W p l e R s m args below meth c H1 locs1 (h'.length - n0) (nsz h' - z0) Q (F0 m (k.1 + 3) lsM ((r.toList ++ k.2.2.drop nn).map (iTv (adA base bs) rho)))) :
    W p l e R s m args below meth c H locs (h.length - n0) (nsz h - z0) Q (F0 m k.1 lsM (k.2.2.map (iTv (adA base bs) rho))) := by
  refine W_size (fun hz => ?_)
  have hHs := so_size hST hn0 hv.1 hz
  obtain ⟨hle, hobj, hmet⟩ := hcs _ _ _ _ hc
  have hle1 : h.length ≤ h'.length := hle.1
  have hle2 : nsz h ≤ nsz h' := hle.2
  rw [Bool.and_eq_true] at hok8
  obtain ⟨tx, htx⟩ := hmem
  have hlkq := hlk _ htx
  obtain rfl : n = 3 := by
    rcases hn with q | q
    · cases i <;> first | (cases hi; done) | (cases q; done)
    · rw [q]
      cases i <;> first | rfl | cases hi
  have hroom : (((k.2.2.drop nn).map (iTv (adA base bs) rho)).map fun v => v.category).sum ≤ 8 := iOkS_sum (fun v hv => iTv_cat1 hv) hok8.1
  have hlen : ((k.2.2.take nn).reverse).length = nn := by
    rw [List.length_reverse, List.length_take]
    have := Nat.ble_eq.mp hok8.2
    omega
  have hst : k.2.2.map (iTv (adA base bs) rho) = (((k.2.2.take nn).reverse).map (iTv (adA base bs) rho)).reverse ++ (k.2.2.drop nn).map (iTv (adA base bs) rho) := by
    rw [← List.map_reverse, List.reverse_reverse, ← List.map_append, List.take_append_drop]
  by_cases hj0 : j2 = 0
  · obtain ⟨⟨q0, heq⟩, ho⟩ := hobj hj0
    subst hj0
    cases ho
    obtain ⟨kd, p1, p2, p3, p4, hln, hlB, -⟩ := link_ok ht
    unfold lnB at hlB
    dsimp only at hlB
    split at hlB
    · simp only [Bool.and_eq_true, decide_eq_true_eq] at hlB
      obtain ⟨w1, w2, -, w4⟩ := hlB
      obtain rfl : nn = 1 := Nat.eq_of_beq_eq_true w4
      obtain ⟨pc, ls1, st1⟩ := k
      cases st1 with
      | nil => cases heq
      | cons a rest =>
        have heq : [a] = [Sum.inr (Sum.inr (Sum.inl (some q0)))] := heq
        cases heq
        obtain ⟨t0, i0⟩ := q0
        unfold iInv at hi
        split at hi
        · have hlkq : (match lnO own _ with | some q => Nat.beq q.2.2.1 0 | none => false) = true := hlkq
          cases hi
          rw [hln] at hlkq
          cases hlkq
        · cases hi
          refine W.objInit hx hb hown (hts _ (hTs _ (tbG_of w1 rfl))) (hts _ (hTs _ (tbG_of w2 rfl))) (hts _ (hTs _ (List.mem_filter.mpr ⟨obj_code, rfl⟩))) rfl (hsz.trans hml.symm) rfl hd (by omega) ?_ (kk H locs hv hST)
          have h8 : ((rest.map (iTv (adA base bs) rho)).map fun v => v.category).sum ≤ 8 := hroom
          show 2 * 0 + ((rest.map (iTv (adA base bs) rho)).map fun v => v.category).sum + 12 ≤ R.locals
          omega
        · have hlkq : (match lnO own _ with | some q => Nat.beq q.2.2.1 3 || Nat.beq q.2.2.1 5 | none => false) = true := hlkq
          cases hi
          rw [hln] at hlkq
          cases hlkq
        · cases hi
    · cases hlB
  · obtain ⟨own', rk', nL', sf', cd', y', bytes', ret', hm', hy', hrcv, hrcv2, hnL', hcn', hM⟩ := hmet hj0 (by have := link_lt ht; omega)
    have hcells : h.length - n0 + (h'.length - h.length) = h'.length - n0 := sub_add3 hv.1 hle1
    have hslots : nsz h - z0 + (nsz h' - nsz h) = nsz h' - z0 := sub_add3 hv.2 hle2
    have hrun := so_run (l := l) (e := e) (below := below) (meth := meth) (locs := locs) (cells := h.length - n0) (slots := nsz h - z0) (lsM := lsM) hx hb hml hown hts hTs hkk.1.2.1 hi ht hlkq hj0 (by have := link_lt ht; omega) hm' hy' hM rfl rfl ⟨hRf, by show 8 + (nL' + 11) + 40 * d ≤ R.locals; omega⟩ hst (by rw [List.length_map]; exact hlen) hroom (preA_blind _ _) (fun U hU hW => ⟨rfl, by rw [hU]; exact hST.1, by rw [hU]; exact hHs, hkk.warm hW (by rw [hU]; exact hST.2.2.1 bs (by omega) (by show ¬ base ≤ bs; omega))⟩) ?_ hsz hd ⟨by rw [hcells]; exact hbd.1, by rw [hslots]; exact hbd.2⟩
    · refine so_retA hrun hST.2 (fun H1 locs1 hST1 => ?_)
      have hk2 := kk H1 locs1 ⟨Nat.le_trans hv.1 hle1, Nat.le_trans hv.2 hle2⟩ hST1
      have e1 : (r.toList ++ k.2.2.drop nn).map (iTv (adA base bs) rho) = (r.map (iTv (adA base bs) rho)).toList ++ (k.2.2.drop nn).map (iTv (adA base bs) rho) := by
        cases r <;> rfl
      rw [e1] at hk2
      rw [hcells, hslots]
      exact hk2
    · intro hsf
      subst hsf
      have hrcv : (match (k.2.2.take nn).reverse with | Sum.inr (Sum.inr (Sum.inl (some (t, _)))) :: _ => Nat.beq t own' | _ => false) = true := hrcv
      split at hrcv
      · rename_i t i2 as' heq
        obtain rfl : t = own' := Nat.eq_of_beq_eq_true hrcv
        have h13 := meth_lt hm'
        refine ⟨base + i2, as'.map (iTv (adA base bs) rho), by
          rw [heq]
          show Value.ref (adA base bs t i2) :: _ = _
          rw [adA_b (by omega)], ?_⟩
        rw [heq] at hrcv2
        have hrcv2 : (Nat.beq t 63 || (match h[i2]? with | some (t', _) => Nat.beq t t' | none => false)) = true := hrcv2
        rw [Bool.or_eq_true] at hrcv2
        rcases hrcv2 with q | q
        · have := Nat.eq_of_beq_eq_true q; omega
        · split at q
          · rename_i t' vs hj
            obtain rfl : t = t' := Nat.eq_of_beq_eq_true q
            have hat : (wA (cP (adA base bs) rho ca) base h)[i2]? = some (base + i2, .inr (t, vs.map (iTv (adA base bs) rho))) := by
              rw [wA_at, hj, ← cP_obj (ca := ca) (show t < 64 by omega)]
              rfl
            have hvn := List.all_eq_true.mp vn_ok t (List.mem_range.mpr h13)
            cases hvc : vwC[t]? with
            | none => rw [hvc] at hvn; cases hvn
            | some qv =>
              rw [hvc] at hvn
              have := va_recv hkk.1.1 hST.1 hvc hat
              rw [hcn', ← of_decide_eq_true hvn]
              exact this
          · cases q
      · cases hrcv
end aMet
