/-! Calls: what a link's words give, whatever the heap is. -/
set_option maxRecDepth 100000 in
theorem ls_ok : (List.range 15).all (fun own => (lnL.getD own []).all (fun q => Nat.blt 2 q.2.2.2.1 || (match mthT q.2.1 with | some r => Nat.beq r.2.2.2.1 0 | none => false))) = true := by decide +kernel
set_option maxRecDepth 100000 in
theorem cz_ok : (cwP.take 159).all (fun p => !Nat.beq p 0) = true := by decide +kernel
set_option maxRecDepth 100000 in
theorem vn_ok : (List.range 13).all (fun t => match vwC[t]? with | some q => decide (q.1 = cn t) | none => false) = true := by decide +kernel
def wsT (y : MethodName) (bytes : ByteArray) (nL : Nat) (ret : Option FieldType) : List Cond := Cond.code y bytes nL ret :: tbG
theorem tbG_good {w : Cond} (h : w ∈ tbG) : (w.onTables && w.keeps) = true ∨ ∃ ty, w = .arrayClass ty := good_of_word (List.mem_filter.mp h).2
theorem goodT {Ts : List Cond} (hTs : ∀ w ∈ tbG, w ∈ Ts) {y : MethodName} {bytes : ByteArray} {nL : Nat} {ret : Option FieldType} (hc : Cond.code y bytes nL ret ∈ tbG) : GoodIn Ts (wsT y bytes nL ret) := by
  intro w hw
  rcases List.mem_cons.mp hw with rfl | h
  · exact ⟨hTs _ hc, tbG_good hc⟩
  · exact ⟨hTs _ h, tbG_good h⟩
theorem meth_ok {j own rk nL sf : Nat} {cd : List iE} (h : mthT j = some (own, rk, nL, sf, cd)) : ∃ y bytes ret, yT j = some (y, bytes, ret) ∧ (j ≠ 160 → Cond.code y bytes nL ret ∈ tbG) ∧ plainFor y = true ∧ y.cls = cn own ∧ rkB rk ret = true ∧ nL ≤ 21 ∧ (y.cls ≠ "java/lang/invoke/MethodHandle" ∧ y.cls ≠ "java/lang/invoke/VarHandle") ∧
    (∀ q ∈ cd, decode bytes q.1 = .ok (q.2.1, q.2.2.1) ∧ iOK q = true) ∧ ∀ q ∈ cd, lkB own q.2.1 q.2.2.2.2 = true := by
  cases j with
  | zero => cases h
  | succ k =>
    have h : mthL[k]? = some (own, rk, nL, sf, cd) := h
    have hlt : k < mthL.length := (List.getElem?_eq_some_iff.mp h).1
    have hlt2 : k < mtL.length := by rw [ml_ok.1]; exact hlt
    have hlt3 : k < cwP.length := by rw [← ml_ok.2]; exact hlt2
    obtain ⟨⟨y, bytes, ret⟩, hy⟩ : ∃ q, mtL[k]? = some q := ⟨_, List.getElem?_eq_getElem hlt2⟩
    have hz : (mtL.zip mthL)[k]? = some ((y, bytes, ret), (own, rk, nL, sf, cd)) := List.getElem?_zip_eq_some.mpr ⟨hy, h⟩
    have hm := List.mem_of_getElem? hz
    have h1 := List.all_eq_true.mp mt_ok _ hm
    unfold mtB at h1
    dsimp only at h1
    simp only [Bool.and_eq_true, decide_eq_true_eq, Nat.ble_eq] at h1
    obtain ⟨a1, a2, a3, a4, a5, a6⟩ := h1
    have h2 := dc_all _ hm
    dsimp only at h2
    have h3 := List.all_eq_true.mp lk_ok _ (List.mem_of_getElem? h)
    refine ⟨y, bytes, ret, hy, fun h160 => ?_, a1, a2, a3, a4, ⟨a5, a6⟩, fun q hq => ?_, fun q hq => List.all_eq_true.mp h3 q hq⟩
    · have hz2 : ((mtL.zip mthL).zip cwP)[k]? = some (((y, bytes, ret), (own, rk, nL, sf, cd)), cwP[k]) := List.getElem?_zip_eq_some.mpr ⟨hz, List.getElem?_eq_getElem hlt3⟩
      have h4 := cw_all _ (List.mem_of_getElem? hz2)
      dsimp only at h4
      rcases h4 with h4 | h4
      · exfalso
        have hk : k < 159 := by
          have : cwP.length = 160 := by decide +kernel
          omega
        have h5 : cwP[k] ∈ cwP.take 159 := by
          apply List.mem_of_getElem? (i := k)
          rw [List.getElem?_take, if_pos hk]
          exact List.getElem?_eq_getElem hlt3
        have h6 := List.all_eq_true.mp cz_ok _ h5
        rw [h4] at h6
        exact absurd h6 (by decide)
      · exact tbG_of h4 rfl
    · have := List.all_eq_true.mp h2 q hq
      rw [Bool.and_eq_true] at this
      exact ⟨of_decide_eq_true this.1, this.2⟩
theorem iLk2_map {α β : Type} (g : α → β) : ∀ (l : List (Nat × α)) (k : Nat), iLk2 (l.map (fun q => (q.1, g q.2))) k = (iLk2 l k).map g := by
  intro l k
  induction l with
  | nil => rfl
  | cons e r ih =>
    simp only [List.map_cons, iLk2]
    cases Nat.beq e.1 k with
    | true => rfl
    | false => exact ih
theorem link_ok {own kx j nn : Nat} (h : tgT own kx = some (j, nn)) : ∃ kd p1 p2 p3 p4, lnO own kx = some (j, nn, kd, p1, p2, p3, p4) ∧ lnB own (kx, j, nn, kd, p1, p2, p3, p4) = true ∧ (kd ≤ 2 → ∃ r, mthT j = some r ∧ r.2.2.2.1 = 0) := by
  have hown : own < 15 := by
    apply Classical.byContradiction
    intro hn
    have h0 : tgL.getD own [] = [] := by
      rw [List.getD_eq_getElem?_getD, List.getElem?_eq_none (show tgL.length ≤ own from Nat.le_trans (by decide) (Nat.le_of_not_lt hn))]
      rfl
    unfold tgT at h
    rw [h0] at h
    cases h
  have h1 := of_decide_eq_true (List.all_eq_true.mp tg_ok own (List.mem_range.mpr hown))
  unfold tgT at h
  rw [h1, iLk2_map (fun q : Nat × Nat × Nat × Nat × Nat × Nat × Nat => (q.1, q.2.1))] at h
  cases hq : iLk2 (lnL.getD own []) kx with
  | none => rw [hq] at h; cases h
  | some q =>
    rw [hq] at h
    obtain ⟨j', nn', kd, p1, p2, p3, p4⟩ := q
    cases h
    have hm := iLk2_mem hq
    refine ⟨kd, p1, p2, p3, p4, hq, List.all_eq_true.mp (List.all_eq_true.mp ln_ok own (List.mem_range.mpr hown)) _ hm, fun hkd => ?_⟩
    have h2 := List.all_eq_true.mp (List.all_eq_true.mp ls_ok own (List.mem_range.mpr hown)) _ hm
    simp only [Bool.or_eq_true, Nat.blt_eq] at h2
    rcases h2 with h2 | h2
    · omega
    · split at h2
      · rename_i r hr
        exact ⟨r, hr, Nat.eq_of_beq_eq_true h2⟩
      · cases h2
theorem iOkS_sum {tv : iV → Value} (hc : ∀ v, iCat1 v = true → (tv v).category = 1) : ∀ {l : List iV} {n : Nat}, iOkS l n = true → ((l.map tv).map fun v => v.category).sum ≤ n := by
  intro l
  induction l with
  | nil => intro n _; simp
  | cons a r ih =>
    intro n h
    cases n with
    | zero => cases h
    | succ n =>
      have h : (iCat1 a && iOkS r n) = true := h
      rw [Bool.and_eq_true] at h
      have h1 := hc a h.1
      have h2 := ih h.2
      simp only [List.map_cons, List.sum_cons, h1]
      omega
section sRun
variable {p : Program} {l : Launch} {e : Env} {R : Room} {s : State} {m : MethodId} {args : Array Value} {below : List Frame} {meth : Method} {c : Code} {H : Heap} {locs : List Loc} {cells slots : Nat}
variable {cc : ByteArray} {pc : Nat} {lsM : Array Slot} {Ts : List Cond} {own nL : Nat}
set_option maxHeartbeats 2000000 in
theorem so_run (hx : p.tables.exec = Jvm.exec) (hb : c.code = cc) (hml : c.maxLocals = nL) (hown : s.vm.findClass (cn own) = some m.cls) (hts : ∀ w ∈ Ts, w.before args s = true) (hTs : ∀ w ∈ tbG, w ∈ Ts) (hnw : ∀ w ∈ nwL, va_Nw w s)
    {i : iI} {v : Int32} {kx j nn : Nat} (hi : iInv i = some kx) (ht : tgT own kx = some (j, nn)) (hlk : lkB own i v = true) (hj : j ≠ 0) (h160 : j ≠ 160) {own' rk nL' sf : Nat} {cd : List iE} (hm : mthT j = some (own', rk, nL', sf, cd)) {y : MethodName} {bytes : ByteArray} {ret : Option FieldType} (hy : yT j = some (y, bytes, ret))
    {rm : Room} {Pc : Array Value → State → Prop} {Qc : Array Value → State → Outcome → State → Prop} {mc ms : Nat} {free : Addr → Prop} (hM : Met l y (wsT y bytes nL' ret) rm Pc Qc mc ms free) (hrc : rm.cells = mc) (hrs : rm.slots = ms) (hR : rm.frames + 1 ≤ R.frames ∧ 8 + (nL' + 11) + rm.locals ≤ R.locals)
    {st as rest : List Value} (hst : st = as.reverse ++ rest) (hlen : as.length = nn) (hroom : (rest.map fun v => v.category).sum ≤ 8) (hbl : FrameBlind Pc) (hPc : ∀ U : State, U.heap = H → s.WarmedH U.vm → Pc as.toArray U)
    (hrecv : sf = 0 → ∃ b as', as = .ref b :: as' ∧ ∃ cell : Cell, H[b]? = some cell ∧ cell.vm.isStatics = false ∧ s.vm.findClass y.cls = some cell.cls)
    (hsize : lsM.size = nL) (hd : decode cc pc = .ok (i, 3)) (hf : cells + mc ≤ R.cells ∧ slots + ms ≤ R.slots) :
    va_Run p l e R s m args below meth c H locs cells slots mc ms (F0 m pc lsM st) rest (Qc as.toArray) free := by
  obtain ⟨y', bytes', ret', hy', hcode, -, -, -, -, hmh, -, -⟩ := meth_ok hm
  cases hy.symm.trans hy'
  have hcode := hcode h160
  have hG := goodT hTs hcode
  obtain ⟨kd, p1, p2, p3, p4, hln, hlB, hsf⟩ := link_ok ht
  subst hst
  have CF : CallFix p m c cc nL s args Ts (cn own) := ⟨hx, hb, hml, hown, hts⟩
  unfold lnB at hlB
  dsimp only at hlB
  have hkd4 : kd ≠ 4 := by
    rintro rfl
    simp only [Bool.and_eq_true] at hlB
    exact hj (Nat.eq_of_beq_eq_true hlB.2.2.1)
  split at hlB
  · exact absurd rfl hkd4
  · rw [hy] at hlB
    dsimp only at hlB
    simp only [Bool.and_eq_true, decide_eq_true_eq] at hlB
    obtain ⟨⟨hini, hpar, hpos⟩, hlB⟩ := hlB
    have hini : (Cond.initialized y.cls).before args s = true := hts _ (hTs _ (tbG_of hini rfl))
    unfold iInv at hi
    split at hi
    · -- invokevirtual
      cases hi
      have hk0 : kd = 0 := by
        have hlk : (match lnO own kx with | some q => Nat.beq q.2.2.1 0 | none => false) = true := hlk
        rw [hln] at hlk
        exact Nat.eq_of_beq_eq_true hlk
      subst hk0
      simp only [Bool.and_eq_true, decide_eq_true_eq] at hlB
      obtain ⟨w1, w2, w3⟩ := hlB
      obtain ⟨r, hr, hr0⟩ := hsf (by decide)
      cases hm.symm.trans hr
      obtain ⟨b, as', rfl, hcell⟩ := hrecv hr0
      refine va_runV (As := as') (b := b) (n := nn - 1) (C := y.cls) CF hM ⟨callB_of (nn - 1) hts hG rfl hrc hrs hini (hts _ (hTs _ (tbG_of w1 rfl))) ⟨hmh.1, hmh.2, hpar⟩ hR, hts _ (hTs _ (tbG_of w2 rfl)), hts _ (hTs _ (tbG_of w3 rfl))⟩ ⟨hbl, hcell, hPc⟩ rfl ?_ hsize ?_ (lv_room hroom) hd hf
      · rw [← hlen]; simp
      · simp
    · -- invokespecial
      cases hi
      have hk : kd = 1 ∨ kd = 2 := by
        have hlk : (match lnO own kx with | some q => Nat.beq q.2.2.1 1 || (Nat.beq q.2.2.1 2 || Nat.beq q.2.2.1 4) | none => false) = true := hlk
        rw [hln] at hlk
        simp only [Bool.or_eq_true] at hlk
        rcases hlk with h | h | h
        · exact Or.inl (Nat.eq_of_beq_eq_true h)
        · exact Or.inr (Nat.eq_of_beq_eq_true h)
        · exact absurd (Nat.eq_of_beq_eq_true h) hkd4
      obtain ⟨r, hr, hr0⟩ := hsf (by omega)
      cases hm.symm.trans hr
      obtain ⟨b, as', rfl, hcell⟩ := hrecv hr0
      rcases hk with rfl | rfl
      · simp only [Bool.and_eq_true, decide_eq_true_eq] at hlB
        obtain ⟨⟨w1, w0⟩, w2, w3⟩ := hlB
        obtain rfl : ret = none := Option.isNone_iff_eq_none.mp w0
        refine va_runI (As := as') (b := b) (n := nn - 1) CF hM ⟨callB_of (nn - 1) hts hG rfl hrc hrs hini (hts _ (hTs _ (tbG_of w1 rfl))) ⟨hmh.1, hmh.2, hpar⟩ hR, w3, hts _ (hTs _ (tbG_of w2 rfl))⟩ ⟨hbl, hPc⟩ rfl ?_ hsize ?_ (lv_room hroom) hd hf
        · rw [← hlen]; simp
        · simp
      · simp only [Bool.and_eq_true, decide_eq_true_eq] at hlB
        obtain ⟨⟨w1, w0⟩, w2, w3⟩ := hlB
        obtain rfl : ret = none := Option.isNone_iff_eq_none.mp w0
        refine va_runIN (As := as') (b := b) (n := nn - 1) (host := "StreamLink") CF hM ⟨va_cnB (nn - 1) hts hG rfl hrc hrs (hnw _ w1) hini ⟨hmh.1, hmh.2, hpar⟩ hR, w3, hts _ (hTs _ (tbG_of w2 rfl))⟩ ⟨hbl, hPc⟩ rfl ?_ hsize ?_ (lv_room hroom) hd hf
        · rw [← hlen]; simp
        · simp
    · -- invokestatic
      cases hi
      have hk : kd = 3 ∨ kd = 5 := by
        have hlk : (match lnO own kx with | some q => Nat.beq q.2.2.1 3 || Nat.beq q.2.2.1 5 | none => false) = true := hlk
        rw [hln] at hlk
        simp only [Bool.or_eq_true] at hlk
        rcases hlk with h | h
        · exact Or.inl (Nat.eq_of_beq_eq_true h)
        · exact Or.inr (Nat.eq_of_beq_eq_true h)
      rcases hk with rfl | rfl
      · simp only [Bool.and_eq_true, decide_eq_true_eq] at hlB
        obtain ⟨w1, w2⟩ := hlB
        exact va_runS (As := as) (n := nn) CF hM ⟨callB_of nn hts hG rfl hrc hrs hini (hts _ (hTs _ (tbG_of w1 rfl))) ⟨hmh.1, hmh.2, hpar⟩ hR, hts _ (hTs _ (tbG_of w2 rfl))⟩ ⟨hbl, hPc⟩ rfl hlen hsize rfl (lv_room hroom) hd hf
      · simp only [Bool.and_eq_true, decide_eq_true_eq] at hlB
        obtain ⟨w1, w2⟩ := hlB
        exact va_runSN (As := as) (n := nn) (host := "StreamLink") CF hM ⟨va_cnB nn hts hG rfl hrc hrs (hnw _ w1) hini ⟨hmh.1, hmh.2, hpar⟩ hR, hts _ (hTs _ (tbG_of w2 rfl)), trivial⟩ ⟨hbl, hPc⟩ rfl hlen hsize rfl (lv_room hroom) hd hf
    · cases hi
end sRun
