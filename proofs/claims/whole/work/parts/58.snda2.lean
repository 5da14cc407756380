/-! Reading and writing the growing heap. -/
theorem okA_fit {ad : Nat → Nat → Nat} {rho : Nat → Int32} {kd : Nat} {v : iV} (h : okA kd v = true) {ty : FieldType} (hty : (kd = 0 ∧ ty = .int) ∨ (kd = 1 ∧ ty = .boolean) ∨ (kd = 3 ∧ ty = .int) ∨ ((kd = 2 ∨ 3 < kd) ∧ ((∃ C, ty = .object C) ∨ ∃ t, ty = .array t))) :
    narrow ty (iTv ad rho v) = iTv ad rho v ∧ fits ty (iTv ad rho v) = true := by
  rcases hty with ⟨rfl, rfl⟩ | ⟨rfl, rfl⟩ | ⟨rfl, rfl⟩ | ⟨hk, hty⟩
  · rcases v with x | x | (_ | q) | k
    · exact ⟨rfl, rfl⟩
    · cases h
    · cases h
    · cases h
    · exact ⟨rfl, rfl⟩
  · rcases v with x | x | (_ | q) | k
    · have h : iIsB x = true := h
      simp only [iIsB, Bool.or_eq_true, decide_eq_true_eq] at h
      rcases h with rfl | rfl <;> exact ⟨rfl, rfl⟩
    · cases h
    · cases h
    · cases h
    · cases h
  · rcases v with x | x | (_ | q) | k
    · exact ⟨rfl, rfl⟩
    · cases h
    · cases h
    · cases h
    · exact ⟨rfl, rfl⟩
  · have hq : ∃ q, v = Sum.inr (Sum.inr (Sum.inl (some q))) := by
      rcases hk with rfl | hk
      · rcases v with x | x | (_ | q) | k
        · cases h
        · cases h
        · cases h
        · exact ⟨q, rfl⟩
        · cases h
      · obtain ⟨n, rfl⟩ : ∃ n, kd = n + 4 := ⟨kd - 4, by omega⟩
        rcases v with x | x | (_ | q) | k
        · cases h
        · cases h
        · cases h
        · exact ⟨q, rfl⟩
        · cases h
    obtain ⟨q, rfl⟩ := hq
    rcases hty with ⟨C, rfl⟩ | ⟨t, rfl⟩ <;> exact ⟨rfl, rfl⟩
/-- the types of the fields are what their kinds say -/
def ftB (q : vw_C) (l : List (Nat × Nat × Nat × Nat)) : Bool := (List.range q.2.2).all (fun k => match l[k]? with
  | none => false
  | some f => match f.1, parseFieldDescriptor (q.2.1 k).2.2.1 with
    | 0, some .int => true
    | 1, some .boolean => true
    | 3, some .int => true
    | 2, some (.object _) => true
    | 2, some (.array _) => true
    | 4, some (.object _) => true
    | _, _ => false)
set_option maxRecDepth 100000 in
theorem ft_ok : (List.range 13).all (fun t => match vwC[t]? with | some r => ftB r (fkL.getD t []) | none => false) = true := by decide +kernel
theorem ft_at {t : Nat} {r : vw_C} (hr : vwC[t]? = some r) {k kd x a b : Nat} (hk : k < r.2.2) (hf : (fkL.getD t [])[k]? = some (kd, x, a, b)) : ∃ ty, parseFieldDescriptor (r.2.1 k).2.2.1 = some ty ∧ ((kd = 0 ∧ ty = .int) ∨ (kd = 1 ∧ ty = .boolean) ∨ (kd = 3 ∧ ty = .int) ∨ ((kd = 2 ∨ 3 < kd) ∧ ((∃ C, ty = .object C) ∨ ∃ t, ty = .array t))) := by
  have ht : t < 13 := (List.getElem?_eq_some_iff.mp hr).1
  have h1 := List.all_eq_true.mp ft_ok t (List.mem_range.mpr ht)
  rw [hr] at h1
  have h2 := List.all_eq_true.mp h1 k (List.mem_range.mpr hk)
  rw [hf] at h2
  dsimp only at h2
  split at h2
  · rename_i h3; exact ⟨_, h3, Or.inl ⟨rfl, rfl⟩⟩
  · rename_i h3; exact ⟨_, h3, Or.inr (Or.inl ⟨rfl, rfl⟩)⟩
  · rename_i h3; exact ⟨_, h3, Or.inr (Or.inr (Or.inl ⟨rfl, rfl⟩))⟩
  · rename_i h3; exact ⟨_, h3, Or.inr (Or.inr (Or.inr ⟨Or.inl rfl, Or.inl ⟨_, rfl⟩⟩))⟩
  · rename_i h3; exact ⟨_, h3, Or.inr (Or.inr (Or.inr ⟨Or.inl rfl, Or.inr ⟨_, rfl⟩⟩))⟩
  · rename_i h3; exact ⟨_, h3, Or.inr (Or.inr (Or.inr ⟨Or.inr (by decide), Or.inl ⟨_, rfl⟩⟩))⟩
  · cases h2
theorem getD_set {l : List iV} {k j : Nat} {v d : iV} (hk : k < l.length) : (l.set k v).getD j d = if j = k then v else l.getD j d := by
  rw [List.getD_eq_getElem?_getD, List.getD_eq_getElem?_getD]
  by_cases h : j = k
  · subst h
    rw [List.getElem?_set_self hk, if_pos rfl]
    rfl
  · rw [List.getElem?_set_ne (fun q => h q.symm), if_neg h]
section aOps2
variable {p : Program} {l : Launch} {e : Env} {R : Room} {s : State} {m : MethodId} {args : Array Value} {below : List Frame} {meth : Method} {c : Code} {H : Heap} {locs : List Loc} {cells slots : Nat} {Q : State → Prop}
variable {cc : ByteArray} {pc : Nat} {lsM : Array Slot} {rest : List Value} {D : va_G} {ad : Nat → Nat → Nat} {rho : Nat → Int32} {ca : Nat → ClassId} {Ts : List Cond} {own base : Nat} {h : HA}
theorem so_getA (hx : p.tables.exec = Jvm.exec) (hb : c.code = cc) (hts : ∀ w ∈ Ts, w.before args s = true) (hTs : ∀ w ∈ tbG, w ∈ Ts) (hown : s.vm.findClass (cn own) = some m.cls) (hK : va_K D vwC (tysS ca) s) (hST : stA D ad rho ca base s h H locs)
    {t j k fno kd x a b : Nat} {vs : List iV} {v : iV} (hf : flO own k = some (t, fno, kd, x, a, b)) (hj : h[j]? = some (t, vs)) (hv : vs[fno]? = some v) (hd : decode cc pc = .ok (.getfield k, 3))
    (kk : W p l e R s m args below meth c H locs cells slots Q (F0 m (pc + 3) lsM (iTv ad rho v :: rest))) : W p l e R s m args below meth c H locs cells slots Q (F0 m pc lsM (.ref (base + j) :: rest)) := by
  obtain ⟨r, hr, h1, h2, h3, h4, -⟩ := flO_ok hf
  have he : (wA (cP ad rho ca) base h)[j]? = some (base + j, .inr (t, vs.map (iTv ad rho))) := by
    rw [wA_at, hj, ← cP_obj (ca := ca) h2]
    rfl
  refine va_get (T := r.2.1) (N := r.2.2) (C := r.1) (ref := (r.2.1 fno).1) (ci := t) hx hb hts (fun w hw => hTs w ((cls_ok hr).1 w hw)) hown hK hST.1 j he hr fno h1 (hts _ (hTs _ h3)) (fun _ h => h) (v := iTv ad rho v) ?_ hd kk
  rw [List.getElem?_map, hv]
  rfl
theorem so_putA (hx : p.tables.exec = Jvm.exec) (hb : c.code = cc) (hts : ∀ w ∈ Ts, w.before args s = true) (hTs : ∀ w ∈ tbG, w ∈ Ts) (hown : s.vm.findClass (cn own) = some m.cls) (hK : va_K D vwC (tysS ca) s) (hST : stA D ad rho ca base s h H locs)
    {t j k fno kd x a b : Nat} {vs : List iV} {v : iV} (hf : flO own k = some (t, fno, kd, x, a, b)) (hj : h[j]? = some (t, vs)) (hv : okA kd v = true) (hlen : fno < vs.length)
    (hfin : ∀ r : vw_C, vwC[t]? = some r → (r.2.1 fno).2.2.2 = false ∨ (meth.name = "<init>" ∧ (r.2.1 fno).1 = cn own)) (hd : decode cc pc = .ok (.putfield k, 3))
    (kk : ∀ (H1 : Heap) (locs1 : List Loc), stA D ad rho ca base s (h.set j (t, vs.set fno v)) H1 locs1 → W p l e R s m args below meth c H1 locs1 cells slots Q (F0 m (pc + 3) lsM rest)) : W p l e R s m args below meth c H locs cells slots Q (F0 m pc lsM (iTv ad rho v :: .ref (base + j) :: rest)) := by
  obtain ⟨r, hr, h1, h2, h3, h4, -⟩ := flO_ok hf
  obtain ⟨c1, c2, c3⟩ := cls_ok hr
  obtain ⟨ty, hty, hkt⟩ := ft_at hr h1 h4
  obtain ⟨n1, n2⟩ := okA_fit (ad := ad) (rho := rho) hv hkt
  have he : (wA (cP ad rho ca) base h)[j]? = some (base + j, .inr (t, vs.map (iTv ad rho))) := by
    rw [wA_at, hj, ← cP_obj (ca := ca) h2]
    rfl
  have hw : wA (cP ad rho ca) base (h.set j (t, vs.set fno v)) = (wA (cP ad rho ca) base h).set j (base + j, .inr (t, (vs.map (iTv ad rho)).set fno (iTv ad rho v))) := by
    rw [wA_set, cP_obj h2, List.map_set]
  have kk' : ∀ (H1 : Heap) (locs1 : List Loc), va_P D vwC ((wA (cP ad rho ca) base h).set j (base + j, .inr (t, (vs.map (iTv ad rho)).set fno (iTv ad rho v)))) H1 → va_D (fun q => base ≤ q) ((wA (cP ad rho ca) base h).set j (base + j, .inr (t, (vs.map (iTv ad rho)).set fno (iTv ad rho v)))) → va_S (fun q => base ≤ q) s.heap H1 locs1 → W p l e R s m args below meth c H1 locs1 cells slots Q (F0 m (pc + 3) lsM rest) :=
    fun H1 locs1 q1 _ q3 => kk H1 locs1 ⟨by rw [hw]; exact q1, q3⟩
  rcases hfin r hr with hfin | ⟨hin, hdecl⟩
  · exact va_put (T := r.2.1) (N := r.2.2) (C := r.1) (ref := (r.2.1 fno).1) (ci := t) hx hb hts (fun w hw => hTs w (c1 w hw)) _ c2 c3 hown hK hST.1 wA_D hST.2 j he hr fno h1 (hts _ (hTs _ h3)) (fun _ h => h) hfin hty n1 n2 (by rw [List.length_map]; exact hlen) hd kk'
  · cases hfb : (r.2.1 fno).2.2.2 with
    | false => exact va_put (T := r.2.1) (N := r.2.2) (C := r.1) (ref := (r.2.1 fno).1) (ci := t) hx hb hts (fun w hw => hTs w (c1 w hw)) _ c2 c3 hown hK hST.1 wA_D hST.2 j he hr fno h1 (hts _ (hTs _ h3)) (fun _ h => h) hfb hty n1 n2 (by rw [List.length_map]; exact hlen) hd kk'
    | true => exact va_putF (T := r.2.1) (N := r.2.2) (C := r.1) (ref := (r.2.1 fno).1) (ci := t) hx hb hts (fun w hw => hTs w (c1 w hw)) _ c2 c3 hown hK hST.1 wA_D hST.2 j he hr fno h1 (hts _ (hTs _ h3)) (fun _ h => h) hfb hin hdecl hty n1 n2 (by rw [List.length_map]; exact hlen) hd kk'
theorem so_aaldA (hx : p.tables.exec = Jvm.exec) (hb : c.code = cc) (hK : va_K D vwC (tysS ca) s) (hST : stA D ad rho ca base s h H locs) {t j t2 j2 : Nat} {vs : List iV} {i : Int32} (h1 : 101 < t) (h2 : t < 107) (hj : h[j]? = some (t, vs)) (hg : inb i vs.length = true) (hv : vs[ix i]? = some (vR t2 j2)) (hd : decode cc pc = .ok (.aaload, 1))
    (kk : W p l e R s m args below meth c H locs cells slots Q (F0 m (pc + 1) lsM (.ref (ad t2 j2) :: rest))) : W p l e R s m args below meth c H locs cells slots Q (F0 m pc lsM (.int i :: .ref (base + j) :: rest)) := by
  have he : (wA (cP ad rho ca) base h)[j]? = some (base + j, .inl (ca (t - 100), vs.length, .inr (.inr (.inr (.inr (fun j => iRef ad (vs.getD j vN))))))) := by
    rw [wA_at, hj, ← cP_ref (ad := ad) (rho := rho) (ca := ca) h1]
    rfl
  obtain ⟨C, hC⟩ := ft_obj (ft := t - 100) (by omega) (by omega)
  have hty := tysS_at (ca := ca) (k := t - 100) (by omega)
  rw [hC] at hty
  refine va_aldq (f := fun j => iRef ad (vs.getD j vN)) hx hb hK hST.1 j (t - 100) he hty (inb_in hg) hd ?_
  have e1 : vs.getD (ix i) vN = vR t2 j2 := by
    rw [List.getD_eq_getElem?_getD, hv]
    rfl
  show W p l e R s m args below meth c H locs cells slots Q (F0 m (pc + 1) lsM (va_rf (iRef ad (vs.getD (ix i) vN)) :: rest))
  rw [e1]
  exact kk
theorem so_iastA (hx : p.tables.exec = Jvm.exec) (hb : c.code = cc) (hK : va_K D vwC (tysS ca) s) (hST : stA D ad rho ca base s h H locs) {j : Nat} {vs : List iV} {i v : Int32} (hj : h[j]? = some (100, vs)) (hg : inb i vs.length = true) (hd : decode cc pc = .ok (.iastore, 1))
    (kk : ∀ (H1 : Heap) (locs1 : List Loc), stA D ad rho ca base s (h.set j (100, vs.set (ix i) (vI v))) H1 locs1 → W p l e R s m args below meth c H1 locs1 cells slots Q (F0 m (pc + 1) lsM rest)) : W p l e R s m args below meth c H locs cells slots Q (F0 m pc lsM (.int v :: .int i :: .ref (base + j) :: rest)) := by
  have hlt : ix i < vs.length := Nat.not_le.mp fun q => inb_in hg (Or.inr q)
  have he : (wA (cP ad rho ca) base h)[j]? = some (base + j, .inl (ca 0, vs.length, .inl (fun j => iInt rho (vs.getD j (vI 0))))) := by
    rw [wA_at, hj]
    exact congrArg some (congrArg (Prod.mk (base + j)) (cP_int (t := 100) (by decide) (by decide)))
  have hw : wA (cP ad rho ca) base (h.set j (100, vs.set (ix i) (vI v))) = (wA (cP ad rho ca) base h).set j (base + j, .inl (ca 0, vs.length, .inl (upd (fun j => iInt rho (vs.getD j (vI 0))) i.toNatClampNeg v))) := by
    rw [wA_set, cP_int (by decide) (by decide), List.length_set]
    congr 6
    funext j'
    rw [getD_set hlt]
    unfold upd
    by_cases hq : j' = i.toNatClampNeg
    · rw [if_pos hq, if_pos hq]; rfl
    · rw [if_neg hq, if_neg hq]
  exact va_iast (f := fun j => iInt rho (vs.getD j (vI 0))) hx hb hK hST.1 wA_D hST.2 j 0 he (tysS_at (by decide)) (inb_in hg) hd (fun H1 locs1 q1 _ q3 => kk H1 locs1 ⟨by rw [hw]; exact q1, q3⟩)
theorem so_bastA (hx : p.tables.exec = Jvm.exec) (hb : c.code = cc) (hK : va_K D vwC (tysS ca) s) (hST : stA D ad rho ca base s h H locs) {j : Nat} {vs : List iV} {i v : Int32} (hj : h[j]? = some (101, vs)) (hg : inb i vs.length = true) (hvb : iIsB v = true) (hd : decode cc pc = .ok (.bastore, 1))
    (kk : ∀ (H1 : Heap) (locs1 : List Loc), stA D ad rho ca base s (h.set j (101, vs.set (ix i) (vI v))) H1 locs1 → W p l e R s m args below meth c H1 locs1 cells slots Q (F0 m (pc + 1) lsM rest)) : W p l e R s m args below meth c H locs cells slots Q (F0 m pc lsM (.int v :: .int i :: .ref (base + j) :: rest)) := by
  have hlt : ix i < vs.length := Nat.not_le.mp fun q => inb_in hg (Or.inr q)
  have hv2 : v = vp_nar .boolean v := by
    simp only [iIsB, Bool.or_eq_true, decide_eq_true_eq] at hvb
    rcases hvb with rfl | rfl <;> rfl
  have he : (wA (cP ad rho ca) base h)[j]? = some (base + j, .inl (ca 1, vs.length, .inl (fun j => iInt rho (vs.getD j (vI 0))))) := by
    rw [wA_at, hj]
    exact congrArg some (congrArg (Prod.mk (base + j)) (cP_int (t := 101) (by decide) (by decide)))
  have hw : wA (cP ad rho ca) base (h.set j (101, vs.set (ix i) (vI v))) = (wA (cP ad rho ca) base h).set j (base + j, .inl (ca 1, vs.length, .inl (upd (fun j => iInt rho (vs.getD j (vI 0))) i.toNatClampNeg (vp_nar .boolean v)))) := by
    rw [wA_set, cP_int (by decide) (by decide), List.length_set]
    congr 6
    funext j'
    rw [getD_set hlt, ← hv2]
    unfold upd
    by_cases hq : j' = i.toNatClampNeg
    · rw [if_pos hq, if_pos hq]; rfl
    · rw [if_neg hq, if_neg hq]
  exact va_zast (f := fun j => iInt rho (vs.getD j (vI 0))) hx hb hK hST.1 wA_D hST.2 j 1 he (tysS_at (by decide)) (inb_in hg) hd (fun H1 locs1 q1 _ q3 => kk H1 locs1 ⟨by rw [hw]; exact q1, q3⟩)
theorem so_aastA (hx : p.tables.exec = Jvm.exec) (hb : c.code = cc) (hK : va_K D vwC (tysS ca) s) (hST : stA D ad rho ca base s h H locs) {t j t2 j2 : Nat} {vs vs2 : List iV} {i : Int32} (h1 : 101 < t) (h2 : t < 107) (hj : h[j]? = some (t, vs)) (hj2 : h[j2]? = some (t2, vs2)) (ht2 : ftT.getD (t - 100) 99 = t2) (had : ad t2 j2 = base + j2) (hg : inb i vs.length = true) (hd : decode cc pc = .ok (.aastore, 1))
    (kk : ∀ (H1 : Heap) (locs1 : List Loc), stA D ad rho ca base s (h.set j (t, vs.set (ix i) (vR t2 j2))) H1 locs1 → W p l e R s m args below meth c H1 locs1 cells slots Q (F0 m (pc + 1) lsM rest)) : W p l e R s m args below meth c H locs cells slots Q (F0 m pc lsM (.ref (base + j2) :: .int i :: .ref (base + j) :: rest)) := by
  have hlt : ix i < vs.length := Nat.not_le.mp fun q => inb_in hg (Or.inr q)
  have he : (wA (cP ad rho ca) base h)[j]? = some (base + j, .inl (ca (t - 100), vs.length, .inr (.inr (.inr (.inr (fun j => iRef ad (vs.getD j vN))))))) := by
    rw [wA_at, hj, ← cP_ref (ad := ad) (rho := rho) (ca := ca) h1]
    rfl
  have hft := List.all_eq_true.mp ftT_ok (t - 100) (List.mem_range.mpr (by omega))
  rw [ht2] at hft
  simp only [Bool.or_eq_true, Nat.ble_eq] at hft
  obtain ⟨r, hr, hC, h64⟩ : ∃ r, vwC[t2]? = some r ∧ ftL.getD (t - 100) .int = .object r.1 ∧ t2 < 64 := by
    rcases hft with q | q
    · omega
    · split at q
      · rename_i r hr
        rw [Bool.and_eq_true] at q
        exact ⟨r, hr, of_decide_eq_true q.1, Nat.blt_eq.mp q.2⟩
      · cases q
  have he2 : (wA (cP ad rho ca) base h)[j2]? = some (base + j2, .inr (t2, vs2.map (iTv ad rho))) := by
    rw [wA_at, hj2, ← cP_obj (ca := ca) h64]
    rfl
  have hty := tysS_at (ca := ca) (k := t - 100) (by omega)
  rw [hC] at hty
  have hw : wA (cP ad rho ca) base (h.set j (t, vs.set (ix i) (vR t2 j2))) = (wA (cP ad rho ca) base h).set j (base + j, .inl (ca (t - 100), vs.length, .inr (.inr (.inr (.inr (va_up (fun j => iRef ad (vs.getD j vN)) i.toNatClampNeg (some (base + j2)))))))) := by
    rw [wA_set, cP_ref h1, List.length_set]
    congr 9
    funext j'
    rw [getD_set hlt]
    unfold va_up
    by_cases hq : j' = i.toNatClampNeg
    · rw [if_pos hq, if_pos hq]
      show some (ad t2 j2) = _
      rw [had]
    · rw [if_neg hq, if_neg hq]
  exact va_astq (f := fun j => iRef ad (vs.getD j vN)) hx hb hK hST.1 wA_D hST.2 j (t - 100) j2 t2 he hty he2 hr (inb_in hg) hd (fun H1 locs1 q1 _ q3 => kk H1 locs1 ⟨by rw [hw]; exact q1, q3⟩)
end aOps2
