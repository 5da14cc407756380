/-! Writing to the static heap, and its arrays. -/
def isI (q : Nat × Nat × Nat × Nat) : Bool := match q.1 with
  | 0 => true
  | 1 => true
  | 3 => true
  | _ => false
set_option maxRecDepth 100000 in
theorem fd_ok : (List.range 13).all (fun t => (List.range (fkL.getD t []).length).all (fun a => (List.range (fkL.getD t []).length).all (fun b => decide (a = b) || !(match (fkL.getD t [])[a]?, (fkL.getD t [])[b]? with | some q, some r => isI q && (isI r && Nat.beq q.2.1 r.2.1) | _, _ => false)))) = true := by decide +kernel
theorem fk_apart {t a b : Nat} {q r : Nat × Nat × Nat × Nat} (ht : t < 13) (ha : (fkL.getD t [])[a]? = some q) (hb : (fkL.getD t [])[b]? = some r) (hab : a ≠ b) (hq : isI q = true) (hr : isI r = true) : q.2.1 ≠ r.2.1 := by
  intro he
  have h := List.all_eq_true.mp (List.all_eq_true.mp (List.all_eq_true.mp fd_ok t (List.mem_range.mpr ht)) a (List.mem_range.mpr (List.getElem?_eq_some_iff.mp ha).1)) b (List.mem_range.mpr (List.getElem?_eq_some_iff.mp hb).1)
  rw [ha, hb] at h
  have e : Nat.beq q.2.1 r.2.1 = true := by rw [he]; exact Nat.beq_refl _
  simp only [hq, hr, e, Bool.and_self, Bool.not_true, Bool.or_false, decide_eq_true_eq] at h
  exact hab h
theorem cS_put {ad : Nat → Nat → Nat} {ca : Nat → ClassId} {S : SS} {t j fno kd x a b : Nat} {v : Int32} (ht : t < 13) (hf : (fkL.getD t [])[fno]? = some (kd, x, a, b)) (hkd : kd = 0 ∨ (kd = 1 ∧ iIsB v = true)) :
    cS ad ca (sPut S x j 0 v) t j = .inr (t, ((fkL.getD t []).map (fun q => fVal ad S q j)).set fno (.int v)) := by
  rw [cS_obj (by omega)]
  congr 2
  apply List.ext_getElem?
  intro n
  have hlt : fno < (fkL.getD t []).length := (List.getElem?_eq_some_iff.mp hf).1
  by_cases hn : n = fno
  · subst hn
    rw [List.getElem?_set_self (by rw [List.length_map]; exact hlt), List.getElem?_map, hf]
    exact congrArg some (fVal_put hkd rfl)
  · rw [List.getElem?_set_ne (fun q => hn q.symm), List.getElem?_map, List.getElem?_map]
    cases hq : (fkL.getD t [])[n]? with
    | none => rfl
    | some q =>
      show some (fVal ad (sPut S x j 0 v) q j) = some (fVal ad S q j)
      have hI : isI (kd, x, a, b) = true := by
        rcases hkd with rfl | ⟨rfl, -⟩ <;> rfl
      have key : isI q = true → ∀ j', sGet (sPut S x j 0 v) q.2.1 j j' = sGet S q.2.1 j j' := fun hq2 j' => by
        rw [sGet_sPut, if_neg]
        rintro ⟨h1, -, -⟩
        exact fk_apart ht hq hf hn hq2 hI h1
      obtain ⟨kd', x', a', b'⟩ := q
      rcases kd' with _ | _ | _ | _ | kd'
      · show some (Value.int (sGet (sPut S x j 0 v) x' j 0)) = some (Value.int (sGet S x' j 0))
        rw [key rfl 0]
      · show some (Value.int (nz (sGet (sPut S x j 0 v) x' j 0))) = some (Value.int (nz (sGet S x' j 0)))
        rw [key rfl 0]
      · rfl
      · show some (Value.int (sGet (sPut S x j 0 v) x' j 0)) = some (Value.int (sGet S x' j 0))
        rw [key rfl 0]
      · rfl
theorem akO_ok {t : Nat} {k : Nat × Nat × Nat × Nat × Nat} {j : Nat} (h : akO t = some k) (hm : (t, j) ∈ OB) (h64 : 64 ≤ t) : ∃ ft cnt, akL[t - 64]? = some (k, cnt, ft) ∧ akB t (k, cnt, ft) = true := by
  obtain ⟨-, h⟩ := akO_ge h
  cases hq : akL[t - 64]? with
  | none => rw [hq] at h; cases h
  | some q =>
    rw [hq] at h
    have hlt : t - 64 < akL.length := (List.getElem?_eq_some_iff.mp hq).1
    have hf := List.all_eq_true.mp ak_ok (t - 64) (List.mem_range.mpr hlt)
    rw [hq] at hf
    have e64 : 64 + (t - 64) = t := by omega
    rw [e64] at hf
    obtain ⟨k', cnt, ft⟩ := q
    cases h
    exact ⟨ft, cnt, rfl, hf⟩
theorem OB_64 {t j : Nat} {k : Nat × Nat × Nat × Nat × Nat} (hm : (t, j) ∈ OB) (h : ¬ t < 13) : 64 ≤ t := by
  rcases OB_kind hm with q | ⟨q, -⟩
  · exact absurd q h
  · exact q
section sOps2
variable {p : Program} {l : Launch} {e : Env} {R : Room} {s : State} {m : MethodId} {args : Array Value} {below : List Frame} {meth : Method} {c : Code} {H H0 : Heap} {locs : List Loc} {cells slots : Nat} {Q : State → Prop}
variable {cc : ByteArray} {pc : Nat} {lsM : Array Slot} {rest : List Value} {D : va_G} {ad : Nat → Nat → Nat} {ca : Nat → ClassId} {A : Nat → Prop} {Ts : List Cond} {own : Nat} {S : SS}
theorem so_put (hx : p.tables.exec = Jvm.exec) (hb : c.code = cc) (hts : ∀ w ∈ Ts, w.before args s = true) (hTs : ∀ w ∈ tbG, w ∈ Ts) (hown : s.vm.findClass (cn own) = some m.cls) (hK : va_K D vwC (tysS ca) s) (hP : va_P D vwC (wS ad ca S) H) (hD : va_D A (wS ad ca S)) (hS : va_S A H0 H locs)
    {t j k fno kd x a b : Nat} {v : Int32} (ho : (t, j) ∈ OB) (hf : flO own k = some (t, fno, kd, x, a, b)) (hkd : kd = 0 ∨ (kd = 1 ∧ iIsB v = true)) (hd : decode cc pc = .ok (.putfield k, 3))
    (kk : ∀ (H1 : Heap) (locs1 : List Loc), va_P D vwC (wS ad ca (sPut S x j 0 v)) H1 → va_D A (wS ad ca (sPut S x j 0 v)) → va_S A H0 H1 locs1 → W p l e R s m args below meth c H1 locs1 cells slots Q (F0 m (pc + 3) lsM rest)) : W p l e R s m args below meth c H locs cells slots Q (F0 m pc lsM (.int v :: .ref (ad t j) :: rest)) := by
  obtain ⟨r, hr, h1, h2, h3, h4, h5⟩ := flO_ok hf
  obtain ⟨q0, hq⟩ := OB_at ho
  have ht : t < 13 := by
    rcases OB_kind ho with q | ⟨q, -⟩
    · exact q
    · omega
  have he := wS_at (ad := ad) (ca := ca) (S := S) hq
  rw [cS_obj h2] at he
  have hox : ownX x = t := by
    have h6 := List.all_eq_true.mp (List.all_eq_true.mp fk_ok t (List.mem_range.mpr ht)) _ (List.mem_of_getElem? h4)
    rcases hkd with rfl | ⟨rfl, -⟩
    · exact Nat.eq_of_beq_eq_true h6
    · exact Nat.eq_of_beq_eq_true h6
  have hw : wS ad ca (sPut S x j 0 v) = (wS ad ca S).set q0 (ad t j, .inr (t, ((fkL.getD t []).map (fun q => fVal ad S q j)).set fno (.int v))) := by
    rw [wS_set hq (fun t' i' hm hne => cS_other hox hm hne), cS_put ht h4 hkd]
  rw [hw] at kk
  obtain ⟨c1, c2, c3⟩ := cls_ok hr
  have hlen : fno < ((fkL.getD t []).map (fun q => fVal ad S q j)).length := by
    rw [List.length_map]
    exact (List.getElem?_eq_some_iff.mp h4).1
  rcases hkd with rfl | ⟨rfl, hv⟩
  · rcases h5 with ⟨-, p1, p2⟩ | ⟨z, -⟩ | z
    · exact va_put (T := r.2.1) (N := r.2.2) (C := r.1) (ref := (r.2.1 fno).1) (ci := t) hx hb hts (fun w hw => hTs w (c1 w hw)) _ c2 c3 hown hK hP hD hS q0 he hr fno h1 (hts _ (hTs _ h3)) (fun _ h => h) p2 p1 rfl rfl hlen hd kk
    · cases z
    · omega
  · rcases h5 with ⟨z, -⟩ | ⟨-, p1, p2⟩ | z
    · cases z
    · have hv2 : v = 0 ∨ v = 1 := by
        simp only [iIsB, Bool.or_eq_true, decide_eq_true_eq] at hv
        exact hv
      exact va_put (T := r.2.1) (N := r.2.2) (C := r.1) (ref := (r.2.1 fno).1) (ci := t) hx hb hts (fun w hw => hTs w (c1 w hw)) _ c2 c3 hown hK hP hD hS q0 he hr fno h1 (hts _ (hTs _ h3)) (fun _ h => h) p2 p1 (by rcases hv2 with rfl | rfl <;> rfl) (by rcases hv2 with rfl | rfl <;> rfl) hlen hd kk
    · omega
theorem so_iald (hx : p.tables.exec = Jvm.exec) (hb : c.code = cc) (hK : va_K D vwC (tysS ca) s) (hP : va_P D vwC (wS ad ca S) H) {t j x a b n : Nat} {i : Int32} (ho : (t, j) ∈ OB) (h64 : 64 ≤ t) (hk : akO t = some (0, x, a, b, n)) (hg : inb i n = true) (hd : decode cc pc = .ok (.iaload, 1))
    (kk : W p l e R s m args below meth c H locs cells slots Q (F0 m (pc + 1) lsM (.int (sGet S x j (ix i)) :: rest))) : W p l e R s m args below meth c H locs cells slots Q (F0 m pc lsM (.int i :: .ref (ad t j) :: rest)) := by
  obtain ⟨q0, hq⟩ := OB_at ho
  obtain ⟨ft, cnt, e1, e2⟩ := akO_ok hk ho h64
  have he := wS_at (ad := ad) (ca := ca) (S := S) hq
  rw [cS_arr h64 e1] at he
  have e2 : (Nat.beq (ownX x) t && Nat.beq ft 0) = true := e2
  rw [Bool.and_eq_true] at e2
  obtain rfl : ft = 0 := Nat.eq_of_beq_eq_true e2.2
  exact va_iald (f := fun j' => sGet S x j j') hx hb hK hP q0 0 he (tysS_at (by decide)) (inb_in hg) hd kk
theorem so_bald (hx : p.tables.exec = Jvm.exec) (hb : c.code = cc) (hK : va_K D vwC (tysS ca) s) (hP : va_P D vwC (wS ad ca S) H) {t j x a b n : Nat} {i : Int32} (ho : (t, j) ∈ OB) (h64 : 64 ≤ t) (hk : akO t = some (1, x, a, b, n)) (hg : inb i n = true) (hd : decode cc pc = .ok (.baload, 1))
    (kk : W p l e R s m args below meth c H locs cells slots Q (F0 m (pc + 1) lsM (.int (nz (sGet S x j (ix i))) :: rest))) : W p l e R s m args below meth c H locs cells slots Q (F0 m pc lsM (.int i :: .ref (ad t j) :: rest)) := by
  obtain ⟨q0, hq⟩ := OB_at ho
  obtain ⟨ft, cnt, e1, e2⟩ := akO_ok hk ho h64
  have he := wS_at (ad := ad) (ca := ca) (S := S) hq
  rw [cS_arr h64 e1] at he
  have e2 : (Nat.beq (ownX x) t && Nat.beq ft 1) = true := e2
  rw [Bool.and_eq_true] at e2
  obtain rfl : ft = 1 := Nat.eq_of_beq_eq_true e2.2
  exact va_zald (f := fun j' => nz (sGet S x j j')) hx hb hK hP q0 1 he (tysS_at (by decide)) (inb_in hg) hd kk
theorem ft_obj {ft : Nat} (h1 : 1 < ft) (h2 : ft < 7) : ∃ C, ftL.getD ft .int = .object C := by
  have : ft = 2 ∨ ft = 3 ∨ ft = 4 ∨ ft = 5 ∨ ft = 6 := by omega
  rcases this with rfl | rfl | rfl | rfl | rfl <;> exact ⟨_, rfl⟩
theorem so_aald (hx : p.tables.exec = Jvm.exec) (hb : c.code = cc) (hK : va_K D vwC (tysS ca) s) (hP : va_P D vwC (wS ad ca S) H) {t j kd x a b n y : Nat} {i : Int32} (ho : (t, j) ∈ OB) (h64 : 64 ≤ t) (hk : akO t = some (kd, x, a, b, n)) (hy : (kd = 2 ∧ y = ix i) ∨ (kd = 3 ∧ y = a * j + ix i) ∨ (kd = 4 ∧ y = a * j + ix i + b)) (hg : inb i n = true) (hd : decode cc pc = .ok (.aaload, 1))
    (kk : W p l e R s m args below meth c H locs cells slots Q (F0 m (pc + 1) lsM (.ref (ad x y) :: rest))) : W p l e R s m args below meth c H locs cells slots Q (F0 m pc lsM (.int i :: .ref (ad t j) :: rest)) := by
  obtain ⟨q0, hq⟩ := OB_at ho
  obtain ⟨ft, cnt, e1, e2⟩ := akO_ok hk ho h64
  have he := wS_at (ad := ad) (ca := ca) (S := S) hq
  rw [cS_arr h64 e1] at he
  have e3 : 1 < ft ∧ ft < 7 := by
    have e2 : (Nat.blt 1 ft && Nat.blt ft 7) = true := by rcases hy with ⟨rfl, -⟩ | ⟨rfl, -⟩ | ⟨rfl, -⟩ <;> exact e2
    rw [Bool.and_eq_true] at e2
    exact ⟨Nat.blt_eq.mp e2.1, Nat.blt_eq.mp e2.2⟩
  obtain ⟨C, hC⟩ := ft_obj e3.1 e3.2
  have hty := tysS_at (ca := ca) e3.2
  rw [hC] at hty
  rcases hy with ⟨rfl, rfl⟩ | ⟨rfl, rfl⟩ | ⟨rfl, rfl⟩
  · exact va_aldq (f := fun j' => some (ad x j')) hx hb hK hP q0 ft he hty (inb_in hg) hd kk
  · exact va_aldq (f := fun j' => some (ad x (a * j + j'))) hx hb hK hP q0 ft he hty (inb_in hg) hd kk
  · exact va_aldq (f := fun j' => some (ad x (a * j + j' + b))) hx hb hK hP q0 ft he hty (inb_in hg) hd kk
theorem so_iast (hx : p.tables.exec = Jvm.exec) (hb : c.code = cc) (hK : va_K D vwC (tysS ca) s) (hP : va_P D vwC (wS ad ca S) H) (hD : va_D A (wS ad ca S)) (hS : va_S A H0 H locs) {t j x a b n : Nat} {i v : Int32} (ho : (t, j) ∈ OB) (h64 : 64 ≤ t) (hk : akO t = some (0, x, a, b, n)) (hg : inb i n = true) (hd : decode cc pc = .ok (.iastore, 1))
    (kk : ∀ (H1 : Heap) (locs1 : List Loc), va_P D vwC (wS ad ca (sPut S x j (ix i) v)) H1 → va_D A (wS ad ca (sPut S x j (ix i) v)) → va_S A H0 H1 locs1 → W p l e R s m args below meth c H1 locs1 cells slots Q (F0 m (pc + 1) lsM rest)) : W p l e R s m args below meth c H locs cells slots Q (F0 m pc lsM (.int v :: .int i :: .ref (ad t j) :: rest)) := by
  obtain ⟨q0, hq⟩ := OB_at ho
  obtain ⟨ft, cnt, e1, e2⟩ := akO_ok hk ho h64
  have he := wS_at (ad := ad) (ca := ca) (S := S) hq
  rw [cS_arr h64 e1] at he
  have e2 : (Nat.beq (ownX x) t && Nat.beq ft 0) = true := e2
  rw [Bool.and_eq_true] at e2
  obtain rfl : ft = 0 := Nat.eq_of_beq_eq_true e2.2
  have hw : wS ad ca (sPut S x j (ix i) v) = (wS ad ca S).set q0 (ad t j, .inl (ca 0, n, .inl (upd (fun j' => sGet S x j j') i.toNatClampNeg v))) := by
    rw [wS_set hq (fun t' i' hm hne => cS_other (Nat.eq_of_beq_eq_true e2.1) hm hne), cS_arr h64 e1]
    congr 2
    show Sum.inl (ca 0, n, Sum.inl (fun j' => sGet (sPut S x j (ix i) v) x j j')) = _
    congr 4
    funext j'
    rw [sGet_sPut]
    unfold upd
    by_cases hj : j' = i.toNatClampNeg
    · rw [if_pos ⟨rfl, rfl, hj⟩, if_pos hj]
    · rw [if_neg (fun q => hj q.2.2), if_neg hj]
  rw [hw] at kk
  exact va_iast (f := fun j' => sGet S x j j') hx hb hK hP hD hS q0 0 he (tysS_at (by decide)) (inb_in hg) hd kk
theorem so_bast (hx : p.tables.exec = Jvm.exec) (hb : c.code = cc) (hK : va_K D vwC (tysS ca) s) (hP : va_P D vwC (wS ad ca S) H) (hD : va_D A (wS ad ca S)) (hS : va_S A H0 H locs) {t j x a b n : Nat} {i v : Int32} (ho : (t, j) ∈ OB) (h64 : 64 ≤ t) (hk : akO t = some (1, x, a, b, n)) (hg : inb i n = true) (hv : iIsB v = true) (hd : decode cc pc = .ok (.bastore, 1))
    (kk : ∀ (H1 : Heap) (locs1 : List Loc), va_P D vwC (wS ad ca (sPut S x j (ix i) v)) H1 → va_D A (wS ad ca (sPut S x j (ix i) v)) → va_S A H0 H1 locs1 → W p l e R s m args below meth c H1 locs1 cells slots Q (F0 m (pc + 1) lsM rest)) : W p l e R s m args below meth c H locs cells slots Q (F0 m pc lsM (.int v :: .int i :: .ref (ad t j) :: rest)) := by
  obtain ⟨q0, hq⟩ := OB_at ho
  obtain ⟨ft, cnt, e1, e2⟩ := akO_ok hk ho h64
  have he := wS_at (ad := ad) (ca := ca) (S := S) hq
  rw [cS_arr h64 e1] at he
  have e2 : (Nat.beq (ownX x) t && Nat.beq ft 1) = true := e2
  rw [Bool.and_eq_true] at e2
  obtain rfl : ft = 1 := Nat.eq_of_beq_eq_true e2.2
  have hv2 : nz v = vp_nar .boolean v := by
    simp only [iIsB, Bool.or_eq_true, decide_eq_true_eq] at hv
    rcases hv with rfl | rfl <;> rfl
  have hw : wS ad ca (sPut S x j (ix i) v) = (wS ad ca S).set q0 (ad t j, .inl (ca 1, n, .inl (upd (fun j' => nz (sGet S x j j')) i.toNatClampNeg (vp_nar .boolean v)))) := by
    rw [wS_set hq (fun t' i' hm hne => cS_other (Nat.eq_of_beq_eq_true e2.1) hm hne), cS_arr h64 e1]
    congr 2
    show Sum.inl (ca 1, n, Sum.inl (fun j' => nz (sGet (sPut S x j (ix i) v) x j j'))) = _
    congr 4
    funext j'
    rw [sGet_sPut]
    unfold upd
    by_cases hj : j' = i.toNatClampNeg
    · rw [if_pos ⟨rfl, rfl, hj⟩, if_pos hj, hv2]
    · rw [if_neg (fun q => hj q.2.2), if_neg hj]
  rw [hw] at kk
  exact va_zast (f := fun j' => nz (sGet S x j j')) hx hb hK hP hD hS q0 1 he (tysS_at (by decide)) (inb_in hg) hd kk
end sOps2
