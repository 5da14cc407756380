/-! All heap instructions of the growing heap. -/
def nsz (h : HA) : Nat := (h.map (fun c => c.2.length)).sum
theorem nsz_app {h : HA} {c : Nat × List iV} : nsz (h ++ [c]) = nsz h + c.2.length := by
  unfold nsz
  rw [List.map_append, List.sum_append]
  simp
theorem nsz_set : ∀ {h : HA} {j : Nat} {c c' : Nat × List iV}, h[j]? = some c → c'.2.length = c.2.length → nsz (h.set j c') = nsz h := by
  intro h
  induction h with
  | nil => intro j c c' hj _; cases hj
  | cons a r ih =>
    intro j c c' hj hl
    cases j with
    | zero =>
      cases hj
      show c'.2.length + nsz r = a.2.length + nsz r
      rw [hl]
    | succ j =>
      show a.2.length + nsz (r.set j c') = a.2.length + nsz r
      rw [ih hj hl]
def pfB (q : (MethodName × ByteArray × Option FieldType) × (Nat × Nat × Nat × Nat × List iE)) : Bool := q.2.2.2.2.2.all (fun x => match x.2.1 with
  | .putfield k => match flO q.2.1 k with
    | some (cls, fno, _) => match vwC[cls]? with
      | some r => decide ((r.2.1 fno).2.2.2 = false) || (decide (q.1.1.name = "<init>") && decide ((r.2.1 fno).1 = cn q.2.1))
      | none => false
    | none => false
  | _ => true)
set_option maxRecDepth 100000 in
theorem pf_ok : (mtL.zip mthL).all pfB = true := by decide +kernel
theorem pf_at {j own rk nL sf : Nat} {cd : List iE} {y : MethodName} {bytes : ByteArray} {ret : Option FieldType} (hm : mthT j = some (own, rk, nL, sf, cd)) (hy : yT j = some (y, bytes, ret)) {pc n k : Nat} {tx : iX} (hq : (pc, Jvm.ClassFile.Instr.putfield k, n, tx) ∈ cd) {cls fno kd x a b : Nat} (hf : flO own k = some (cls, fno, kd, x, a, b)) (r : vw_C) (hr : vwC[cls]? = some r) :
    (r.2.1 fno).2.2.2 = false ∨ (y.name = "<init>" ∧ (r.2.1 fno).1 = cn own) := by
  cases j with
  | zero => cases hm
  | succ j =>
    have hm : mthL[j]? = some (own, rk, nL, sf, cd) := hm
    have hy : mtL[j]? = some (y, bytes, ret) := hy
    have hz : (mtL.zip mthL)[j]? = some ((y, bytes, ret), (own, rk, nL, sf, cd)) := List.getElem?_zip_eq_some.mpr ⟨hy, hm⟩
    have h1 := List.all_eq_true.mp pf_ok _ (List.mem_of_getElem? hz)
    have h2 := List.all_eq_true.mp h1 _ hq
    dsimp only at h2
    rw [hf] at h2
    dsimp only at h2
    rw [hr] at h2
    dsimp only at h2
    simp only [Bool.or_eq_true, Bool.and_eq_true, decide_eq_true_eq] at h2
    exact h2
theorem adA_b {base bs t i : Nat} (h : t ≠ 63) : adA base bs t i = base + i := by
  unfold adA
  cases hb : Nat.beq t 63 with
  | true => exact absurd (Nat.eq_of_beq_eq_true hb) h
  | false => rfl
section aHop
variable {p : Program} {l : Launch} {e : Env} {R : Room} {s : State} {m : MethodId} {args : Array Value} {below : List Frame} {meth : Method} {c : Code} {Q : State → Prop}
variable {cc : ByteArray} {D : va_G} {ca : Nat → ClassId} {rho : Nat → Int32} {Ts : List Cond} {own bs base n0 z0 : Nat} {scr : Nat × (Nat → Int32)}
set_option maxHeartbeats 4000000 in
theorem so_hopA (hx : p.tables.exec = Jvm.exec) (hb : c.code = cc) (hts : ∀ w ∈ Ts, w.before args s = true) (hTs : ∀ w ∈ tbG, w ∈ Ts) (hown : s.vm.findClass (cn own) = some m.cls) (hK : va_K D vwC (tysS ca) s) (hao : ∀ C ∈ aoN, va_AO C s)
    (hX : va_X bs scr.1 scr.2 s s.heap) (hbs : bs < base) (hn0 : s.heap.size = base + n0)
    (i : iI) (n : Nat) (k : iC) (st' : List iV) (h h' : HA) (hh : hopA scr own i k.2.2 h = some (st', h')) (hd : decode cc k.1 = .ok (i, n)) (hn : iIsSw i = true ∨ n = iLen i)
    (hfin : ∀ kx cls fno kd x a b, i = .putfield kx → flO own kx = some (cls, fno, kd, x, a, b) → ∀ r : vw_C, vwC[cls]? = some r → (r.2.1 fno).2.2.2 = false ∨ (meth.name = "<init>" ∧ (r.2.1 fno).1 = cn own))
    (hv : n0 ≤ h.length ∧ z0 ≤ nsz h) (hbd : h'.length - n0 ≤ R.cells ∧ nsz h' - z0 ≤ R.slots) :
    (n0 ≤ h'.length ∧ z0 ≤ nsz h') ∧ ∀ (H : Heap) (locs : List Loc) (lsM : Array Slot), stA D (adA base bs) rho ca base s h H locs →
      (∀ (H1 : Heap) (locs1 : List Loc), stA D (adA base bs) rho ca base s h' H1 locs1 → W p l e R s m args below meth c H1 locs1 (h'.length - n0) (nsz h' - z0) Q (F0 m (k.1 + iLen i) lsM (st'.map (iTv (adA base bs) rho)))) → W p l e R s m args below meth c H locs (h.length - n0) (nsz h - z0) Q (F0 m k.1 lsM (k.2.2.map (iTv (adA base bs) rho))) := by
  obtain ⟨pc, ls, st⟩ := k
  dsimp only at hh hd ⊢
  obtain ⟨hv1, hv2⟩ := hv
  have hbase : base ≤ s.heap.size := by omega
  have hsz : s.heap.size + (h.length - n0) = base + h.length := by omega
  have hbl : bs < s.heap.size := by omega
  have hbA : ¬ base ≤ bs := by omega
  unfold hopA at hh
  split at hh
  · -- getfield
    rename_i kx
    obtain rfl : n = 3 := hn.resolve_left (fun q => by cases q)
    unfold aGet at hh
    split at hh
    · rename_i t j r
      split at hh
      · rename_i cls fno kd x a b hf
        split at hh
        · rename_i hb1
          obtain rfl : t = cls := Nat.eq_of_beq_eq_true hb1
          split at hh
          · rename_i t' vs hj
            split at hh
            · rename_i hb2
              obtain rfl : t' = t := Nat.eq_of_beq_eq_true hb2
              split at hh
              · rename_i v hvv
                cases hh
                have ht : t' ≠ 63 := by
                  obtain ⟨r0, hr0, -⟩ := flO_ok hf
                  have : t' < 13 := (List.getElem?_eq_some_iff.mp hr0).1
                  omega
                refine ⟨⟨hv1, hv2⟩, fun H locs lsM hST kk => ?_⟩
                show W p l e R s m args below meth c H locs _ _ Q (F0 m pc lsM (.ref (adA base bs t' j) :: r.map (iTv (adA base bs) rho)))
                rw [adA_b ht]
                exact so_getA hx hb hts hTs hown hK hST hf hj hvv hd (kk H locs hST)
              · cases hh
            · cases hh
          · cases hh
        · cases hh
      · cases hh
    · cases hh
  · -- putfield
    rename_i kx
    obtain rfl : n = 3 := hn.resolve_left (fun q => by cases q)
    unfold aPut at hh
    split at hh
    · rename_i v t j r
      split at hh
      · rename_i cls fno kd x a b hf
        split at hh
        · rename_i hb1
          obtain rfl : t = cls := Nat.eq_of_beq_eq_true hb1
          split at hh
          · rename_i t' vs hj
            split at hh
            · rename_i hb2
              simp only [Bool.and_eq_true, Nat.blt_eq] at hb2
              obtain ⟨hb2, hok, hlen⟩ := hb2
              obtain rfl : t' = t := Nat.eq_of_beq_eq_true hb2
              cases hh
              have ht : t' ≠ 63 := by
                obtain ⟨r0, hr0, -⟩ := flO_ok hf
                have : t' < 13 := (List.getElem?_eq_some_iff.mp hr0).1
                omega
              have e1 : (h.set j (t', vs.set fno v)).length = h.length := List.length_set
              have e2 : nsz (h.set j (t', vs.set fno v)) = nsz h := nsz_set hj (by show (vs.set fno v).length = vs.length; exact List.length_set)
              rw [e1, e2]
              refine ⟨⟨hv1, hv2⟩, fun H locs lsM hST kk => ?_⟩
              show W p l e R s m args below meth c H locs _ _ Q (F0 m pc lsM (iTv (adA base bs) rho v :: .ref (adA base bs t' j) :: st'.map (iTv (adA base bs) rho)))
              rw [adA_b ht]
              exact so_putA hx hb hts hTs hown hK hST hf hj hok hlen (hfin kx t' fno kd x a b rfl hf) hd kk
            · cases hh
          · cases hh
        · cases hh
      · cases hh
    · cases hh
  · -- new
    rename_i kx
    obtain rfl : n = 3 := hn.resolve_left (fun q => by cases q)
    unfold aNew at hh
    split at hh
    · rename_i t q hk
      obtain ⟨ft, p1, p2, p3, p4⟩ := q
      cases hh
      have ht : t ≠ 63 := by
        obtain ⟨r0, hr0, -⟩ := ckO_ok hk
        have : t < 13 := (List.getElem?_eq_some_iff.mp hr0).1
        omega
      rw [List.length_append, nsz_app] at hbd ⊢
      have e1 : h.length + [(t, dfA t)].length - n0 = h.length - n0 + 1 := by simp; omega
      have e2 : nsz h + (dfA t).length - z0 = nsz h - z0 + (dfA t).length := by omega
      dsimp only at hbd ⊢
      rw [e1, e2] at hbd ⊢
      refine ⟨⟨by simp; omega, by omega⟩, fun H locs lsM hST kk => ?_⟩
      refine so_newA hx hb hts hTs hown hK hST hbase hsz hk hbd.1 hbd.2 hd (fun H1 hST1 => ?_)
      have := kk H1 locs hST1
      rw [show (vR t h.length :: st).map (iTv (adA base bs) rho) = .ref (base + h.length) :: st.map (iTv (adA base bs) rho) by
        show Value.ref (adA base bs t h.length) :: _ = _
        rw [adA_b ht]] at this
      exact this
    · cases hh
  · -- anewarray
    rename_i kx
    obtain rfl : n = 3 := hn.resolve_left (fun q => by cases q)
    unfold aNewA at hh
    split at hh
    · rename_i nn r
      split at hh
      · rename_i t ft q hk
        obtain ⟨p1, p2, p3, p4⟩ := q
        split at hh
        · rename_i hc
          simp only [Bool.and_eq_true, Nat.blt_eq, Nat.ble_eq, Bool.not_eq_true', decide_eq_false_iff_not] at hc
          obtain ⟨c1, c2, c3⟩ := hc
          cases hh
          rw [List.length_append, nsz_app] at hbd ⊢
          have e1 : h.length + [(100 + ft, List.replicate nn.toNatClampNeg vN)].length - n0 = h.length - n0 + 1 := by simp; omega
          have e2 : nsz h + (List.replicate nn.toNatClampNeg vN).length - z0 = nsz h - z0 + nn.toNatClampNeg := by rw [List.length_replicate]; omega
          dsimp only at hbd ⊢
          rw [e1, e2] at hbd ⊢
          refine ⟨⟨by simp; omega, by omega⟩, fun H locs lsM hST kk => ?_⟩
          refine so_newR hx hb hts hTs hown hao hK hST hbase hsz hk c1 c2 c3 hbd.1 hbd.2 hd (fun H1 hST1 => ?_)
          have := kk H1 locs hST1
          rw [show (vR (100 + ft) h.length :: r).map (iTv (adA base bs) rho) = .ref (base + h.length) :: r.map (iTv (adA base bs) rho) by
            show Value.ref (adA base bs (100 + ft) h.length) :: _ = _
            rw [adA_b (by omega)]] at this
          exact this
        · cases hh
      · cases hh
    · cases hh
  · -- newarray
    rename_i aty
    obtain rfl : n = 2 := hn.resolve_left (fun q => by cases q)
    have key : ∀ (st : List iV) (ft : Nat), ((ft = 0 ∧ aty = .int) ∨ (ft = 1 ∧ aty = .boolean)) → aNewP ft st h = some (st', h') → (n0 ≤ h'.length ∧ z0 ≤ nsz h') ∧ ∀ (H : Heap) (locs : List Loc) (lsM : Array Slot), stA D (adA base bs) rho ca base s h H locs →
        (∀ (H1 : Heap) (locs1 : List Loc), stA D (adA base bs) rho ca base s h' H1 locs1 → W p l e R s m args below meth c H1 locs1 (h'.length - n0) (nsz h' - z0) Q (F0 m (pc + 2) lsM (st'.map (iTv (adA base bs) rho)))) → W p l e R s m args below meth c H locs (h.length - n0) (nsz h - z0) Q (F0 m pc lsM (st.map (iTv (adA base bs) rho))) := by
      intro st ft hft hh
      unfold aNewP at hh
      split at hh
      · rename_i nn r
        split at hh
        · rename_i hc
          simp only [Bool.and_eq_true, Nat.ble_eq, Bool.not_eq_true', decide_eq_false_iff_not] at hc
          obtain ⟨c2, c3⟩ := hc
          cases hh
          rw [List.length_append, nsz_app] at hbd ⊢
          have e1 : h.length + [(100 + ft, List.replicate nn.toNatClampNeg (vI 0))].length - n0 = h.length - n0 + 1 := by simp; omega
          have e2 : nsz h + (List.replicate nn.toNatClampNeg (vI 0)).length - z0 = nsz h - z0 + nn.toNatClampNeg := by rw [List.length_replicate]; omega
          dsimp only at hbd ⊢
          rw [e1, e2] at hbd ⊢
          refine ⟨⟨by simp; omega, by omega⟩, fun H locs lsM hST kk => ?_⟩
          refine so_newP hx hb hts hTs hK hST hbase hsz hft c2 c3 hbd.1 hbd.2 hd (fun H1 hST1 => ?_)
          have := kk H1 locs hST1
          rw [show (vR (100 + ft) h.length :: r).map (iTv (adA base bs) rho) = .ref (base + h.length) :: r.map (iTv (adA base bs) rho) by
            show Value.ref (adA base bs (100 + ft) h.length) :: _ = _
            rw [adA_b (by rcases hft with ⟨rfl, -⟩ | ⟨rfl, -⟩ <;> omega)]] at this
          exact this
        · cases hh
      · cases hh
    cases aty with
    | int => exact key st 0 (Or.inl ⟨rfl, rfl⟩) hh
    | boolean => exact key st 1 (Or.inr ⟨rfl, rfl⟩) hh
    | _ => cases hh
  · -- aaload
    obtain rfl : n = 1 := hn.resolve_left (fun q => by cases q)
    unfold aAald at hh
    split at hh
    · rename_i i t j r
      split at hh
      · rename_i t' vs hj
        split at hh
        · rename_i hc
          simp only [Bool.and_eq_true, Nat.blt_eq] at hc
          obtain ⟨c1, c2, c3, c4⟩ := hc
          obtain rfl : t = t' := Nat.eq_of_beq_eq_true c1
          split at hh
          · rename_i t2 j2 hvv
            cases hh
            refine ⟨⟨hv1, hv2⟩, fun H locs lsM hST kk => ?_⟩
            show W p l e R s m args below meth c H locs _ _ Q (F0 m pc lsM (.int i :: .ref (adA base bs t j) :: r.map (iTv (adA base bs) rho)))
            rw [adA_b (by omega)]
            exact so_aaldA hx hb hK hST c2 c3 hj c4 hvv hd (kk H locs hST)
          · cases hh
        · cases hh
      · cases hh
    · cases hh
  · -- iastore
    obtain rfl : n = 1 := hn.resolve_left (fun q => by cases q)
    unfold aIast at hh
    split at hh
    · rename_i v i t j r
      split at hh
      · rename_i t' vs hj
        split at hh
        · rename_i hc
          simp only [Bool.and_eq_true] at hc
          obtain ⟨c1, c2, c3⟩ := hc
          obtain rfl : t = 100 := Nat.eq_of_beq_eq_true c1
          obtain rfl : t' = 100 := Nat.eq_of_beq_eq_true c2
          cases hh
          have e1 : (h.set j (100, vs.set (ix i) (vI v))).length = h.length := List.length_set
          have e2 : nsz (h.set j (100, vs.set (ix i) (vI v))) = nsz h := nsz_set hj (by show (vs.set (ix i) (vI v)).length = vs.length; exact List.length_set)
          rw [e1, e2]
          exact ⟨⟨hv1, hv2⟩, fun H locs lsM hST kk => so_iastA hx hb hK hST hj c3 hd kk⟩
        · cases hh
      · cases hh
    · cases hh
  · -- bastore
    obtain rfl : n = 1 := hn.resolve_left (fun q => by cases q)
    unfold aBast at hh
    split at hh
    · rename_i v i t j r
      split at hh
      · rename_i t' vs hj
        split at hh
        · rename_i hc
          simp only [Bool.and_eq_true] at hc
          obtain ⟨c1, c2, c3, c4⟩ := hc
          obtain rfl : t = 101 := Nat.eq_of_beq_eq_true c1
          obtain rfl : t' = 101 := Nat.eq_of_beq_eq_true c2
          cases hh
          have e1 : (h.set j (101, vs.set (ix i) (vI v))).length = h.length := List.length_set
          have e2 : nsz (h.set j (101, vs.set (ix i) (vI v))) = nsz h := nsz_set hj (by show (vs.set (ix i) (vI v)).length = vs.length; exact List.length_set)
          rw [e1, e2]
          exact ⟨⟨hv1, hv2⟩, fun H locs lsM hST kk => so_bastA hx hb hK hST hj c3 c4 hd kk⟩
        · cases hh
      · cases hh
    · cases hh
  · -- aastore
    obtain rfl : n = 1 := hn.resolve_left (fun q => by cases q)
    unfold aAast at hh
    split at hh
    · rename_i t2 j2 i t j r
      split at hh
      · rename_i t' vs t3 vs3 hj hj2
        split at hh
        · rename_i hc
          simp only [Bool.and_eq_true, Nat.blt_eq] at hc
          obtain ⟨c1, c2, c3, c4, c5, c6⟩ := hc
          obtain rfl : t = t' := Nat.eq_of_beq_eq_true c1
          obtain rfl : t2 = t3 := Nat.eq_of_beq_eq_true c4
          cases hh
          have ht2 : t2 ≠ 63 := by
            have hq := Nat.eq_of_beq_eq_true c5
            have hz : (List.range 7).all (fun ft => !Nat.beq (ftT.getD ft 99) 63) = true := by decide
            have := List.all_eq_true.mp hz (t - 100) (List.mem_range.mpr (by omega))
            rw [hq] at this
            intro q
            subst q
            cases this
          have e1 : (h.set j (t, vs.set (ix i) (vR t2 j2))).length = h.length := List.length_set
          have e2 : nsz (h.set j (t, vs.set (ix i) (vR t2 j2))) = nsz h := nsz_set hj (by show (vs.set (ix i) (vR t2 j2)).length = vs.length; exact List.length_set)
          rw [e1, e2]
          refine ⟨⟨hv1, hv2⟩, fun H locs lsM hST kk => ?_⟩
          show W p l e R s m args below meth c H locs _ _ Q (F0 m pc lsM (.ref (adA base bs t2 j2) :: .int i :: .ref (adA base bs t j) :: st'.map (iTv (adA base bs) rho)))
          rw [adA_b ht2, adA_b (by omega)]
          exact so_aastA hx hb hK hST c2 c3 hj hj2 (Nat.eq_of_beq_eq_true c5) (adA_b ht2) c6 hd kk
        · cases hh
      · cases hh
    · cases hh
  · -- iaload of the script
    obtain rfl : n = 1 := hn.resolve_left (fun q => by cases q)
    split at hh
    · rename_i i t j r
      split at hh
      · rename_i hc
        rw [Bool.and_eq_true] at hc
        obtain rfl : t = 63 := Nat.eq_of_beq_eq_true hc.1
        cases hh
        exact ⟨⟨hv1, hv2⟩, fun H locs lsM hST kk => va_sld hx hb hX hbl hbA hST.2 (inb_in hc.2) hd (kk H locs hST)⟩
      · cases hh
    · cases hh
  · -- its length
    obtain rfl : n = 1 := hn.resolve_left (fun q => by cases q)
    split at hh
    · rename_i t j r
      split at hh
      · rename_i hc
        obtain rfl : t = 63 := Nat.eq_of_beq_eq_true hc
        cases hh
        exact ⟨⟨hv1, hv2⟩, fun H locs lsM hST kk => va_slen hx hb hX hbl hbA hST.2 hd (kk H locs hST)⟩
      · cases hh
    · cases hh
  · cases hh
end aHop
