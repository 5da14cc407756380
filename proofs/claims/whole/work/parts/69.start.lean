/-! The start of the law: what is known of the machine, and the static heap. -/
def nwP : List Nat := [104, 110, 194, 223, 246, 277, 290, 295, 297, 447, 722]
def aoP : List Nat := [87, 288, 94, 102, 245]
def inP : List Nat := [73, 877, 193, 88, 216, 96, 289, 276, 222, 282, 103, 446, 109]
set_option maxRecDepth 100000 in
theorem nw_in : nwL = nwP.filterMap (fun i => lw_tbl[i]?) := by decide +kernel
set_option maxRecDepth 100000 in
theorem ao_in : aoN.map (fun C => Cond.arrayOver (.object C)) = aoP.filterMap (fun i => lw_tbl[i]?) := by decide +kernel
set_option maxRecDepth 100000 in
theorem in_in : (List.range 13).all (fun c => match vwC[c]?, inP[c]? with | some r, some i => decide (lw_tbl[i]? = some (.instantiable r.1 r.2.2)) | _, _ => false) = true := by decide +kernel
theorem vwC_len : vwC.length = 13 := by decide +kernel
set_option maxRecDepth 100000 in
theorem ftL_ok : (List.range 7).all (fun k => Nat.ble k 1 || aoN.any (fun C => decide (ftL.getD k .int = .object C))) = true := by decide +kernel
theorem wTbl {w : Cond} {k : Nat} {P : List Nat} {L : List Cond} (hL : L = P.filterMap (fun i => lw_tbl[i]?)) (hw : w ∈ L) : w ∈ lw_tbl := by
  rw [hL] at hw
  obtain ⟨i, -, hi⟩ := List.mem_filterMap.mp hw
  exact List.mem_of_getElem? hi
section aStart
variable {s : State} {args : Array Value}
theorem st_D (hts : ∀ w ∈ lw_tbl, w.before args s = true) : ∃ D : va_G, ∀ (c : Nat) (q : vw_C), vwC[c]? = some q → u_Kn s q.1 q.2.1 q.2.2 (D.1 c) (D.2 c) := by
  have h : ∀ c : Nat, ∃ r : ClassId × (Nat → Nat), ∀ q : vw_C, vwC[c]? = some q → u_Kn s q.1 q.2.1 q.2.2 r.1 r.2 := by
    intro c
    cases hq : vwC[c]? with
    | none => exact ⟨(0, fun _ => 0), fun q h => by cases h⟩
    | some q =>
      have hc : c < 13 := vwC_len ▸ (List.getElem?_eq_some_iff.mp hq).1
      have h1 := List.all_eq_true.mp in_in c (List.mem_range.mpr hc)
      rw [hq] at h1
      cases hi : inP[c]? with
      | none => rw [hi] at h1; cases h1
      | some i =>
        rw [hi] at h1
        have h1 := of_decide_eq_true h1
        obtain ⟨cC, iS, hk⟩ := u_known (ws := lw_tbl) hts (fun w hw => (List.mem_filter.mp ((cls_ok hq).1 w hw)).1) (hts _ (List.mem_of_getElem? h1))
        exact ⟨(cC, iS), fun q' h => by cases h; exact hk⟩
  exact ⟨(fun c => (Classical.choose (h c)).1, fun c => (Classical.choose (h c)).2), fun c q hq => Classical.choose_spec (h c) q hq⟩
theorem st_ca (hts : ∀ w ∈ lw_tbl, w.before args s = true) : ∃ ca : Nat → ClassId, ∀ (k : Nat) (q : ClassId × FieldType), (tysS ca)[k]? = some q → ArrOfT s q.1 q.2 ∧ va_RA s q.1 q.2 := by
  have h : ∀ k : Nat, ∃ r : ClassId, k < 7 → ArrOfT s r (ftL.getD k .int) ∧ va_RA s r (ftL.getD k .int) := by
    intro k
    by_cases hk : k < 7
    · have h1 := List.all_eq_true.mp ftL_ok k (List.mem_range.mpr hk)
      rw [Bool.or_eq_true] at h1
      rcases h1 with h1 | h1
      · have h1 := Nat.ble_eq.mp h1
        rcases k with _ | _ | k
        · obtain ⟨c, kk, comp, e1, e2, e3⟩ := Cond.arrayClass_spec (hts _ (List.mem_of_getElem? ar_ok.1))
          exact ⟨c, fun _ => ⟨fun n z => ⟨fun k q => (by cases q), kk, e2, comp, e3⟩, e1⟩⟩
        · obtain ⟨c, kk, comp, e1, e2, e3⟩ := Cond.arrayClass_spec (hts _ (List.mem_of_getElem? ar_ok.2))
          exact ⟨c, fun _ => ⟨fun n z => ⟨fun k q => (by cases q), kk, e2, comp, e3⟩, e1⟩⟩
        · omega
      · obtain ⟨C, hC, h2⟩ := List.any_eq_true.mp h1
        have h2 := of_decide_eq_true h2
        have hw : Cond.arrayOver (.object C) ∈ aoN.map (fun C => Cond.arrayOver (.object C)) := List.mem_map.mpr ⟨C, hC, rfl⟩
        obtain ⟨comp, c, kk, e1, e2, e3, e4, e5⟩ := Cond.arrayOver_spec (hts _ (wTbl (k := 0) ao_in hw))
        refine ⟨c, fun _ => ?_⟩
        rw [h2]
        exact ⟨fun n z => ⟨fun k q => (by cases q), kk, e3, comp, e4⟩, ⟨kk, comp, e3, e4, e1, e5⟩⟩
    · exact ⟨0, fun h => absurd h hk⟩
  refine ⟨fun k => Classical.choose (h k), fun k q hq => ?_⟩
  by_cases hk : k < 7
  · rw [tysS_at hk] at hq
    cases hq
    exact Classical.choose_spec (h k) hk
  · unfold tysS at hq
    rw [List.getElem?_map, List.getElem?_eq_none (by rw [List.length_range]; omega)] at hq
    cases hq
theorem st_kk {b L : Nat} {xs : Nat → Int32} (hts : ∀ w ∈ lw_tbl, w.before args s = true) (hX : va_X b L xs s s.heap) : ∃ (D : va_G) (ca : Nat → ClassId), kkA D ca b (L, xs) s := by
  obtain ⟨D, hD⟩ := st_D hts
  obtain ⟨ca, hca⟩ := st_ca hts
  refine ⟨D, ca, ⟨⟨hD, hca⟩, fun w hw => ?_, hX⟩, fun C hC => va_AO.of (hts _ (wTbl (k := 0) ao_in (List.mem_map.mpr ⟨C, hC, rfl⟩)))⟩
  obtain ⟨a, i, x, h, rfl⟩ := nw_form w hw
  exact va_Nw.of rfl (hts _ (wTbl (k := 0) nw_in hw))
end aStart
section aTr2
variable {base bs : Nat} {rho : Nat → Int32} {D : va_G} {ca : Nat → ClassId} {H : Heap}
theorem adF_ne {t i : Nat} (h : Nat.beq t 63 = false) : adF base bs t i = base + posO t i := by
  unfold adF
  rw [h]
theorem getD_at {vs : List iV} {j : Nat} {v d : iV} (h : vs[j]? = some v) : vs.getD j d = v := by
  rw [List.getD_eq_getElem?_getD, h]
  rfl
set_option maxHeartbeats 2000000 in
theorem tr_at (hP : va_P D vwC (wA (cP (adA base bs) rho ca) base hM3) H) {t i : Nat} (hm : (t, i) ∈ OB) : va_at D vwC (adF base bs t i, cS (adF base bs) ca (S0 rho, S0 rho) t i) H := by
  have hc := List.all_eq_true.mp cel_ok _ hm
  unfold celB at hc
  rw [Bool.and_eq_true] at hc
  obtain ⟨h63, hc⟩ := hc
  have h63 := nb63 h63
  dsimp only at hc h63
  rw [adF_ne h63]
  split at hc
  · cases hc
  · rename_i c hcell
    have hat : (wA (cP (adA base bs) rho ca) base hM3)[posO t i]? = some (base + posO t i, cP (adA base bs) rho ca c) := by
      rw [wA_at, hcell]
      rfl
    have h1 := hP _ _ hat
    obtain ⟨t', vs⟩ := c
    unfold cS
    split at hc
    · rename_i hb
      rw [hb]
      dsimp only
      rw [Bool.and_eq_true] at hc
      obtain rfl : t' = t := Nat.eq_of_beq_eq_true hc.1
      rw [cP_obj (Nat.blt_eq.mp hb), flds_eq hc.2] at h1
      exact h1
    · rename_i hb
      rw [hb]
      dsimp only
      split at hc
      · rename_i k hk
        rw [hk]
        dsimp only
        obtain ⟨⟨kd, x, a, b, n⟩, cnt, ft⟩ := k
        unfold arrB at hc
        rw [Bool.and_eq_true, Bool.and_eq_true] at hc
        obtain ⟨e1, e2, hc⟩ := hc
        obtain rfl : t' = 100 + ft := Nat.eq_of_beq_eq_true e1
        obtain rfl : vs.length = n := Nat.eq_of_beq_eq_true e2
        have hge : Nat.blt (100 + ft) 64 = false := by
          cases hq : Nat.blt (100 + ft) 64 with
          | true => have := Nat.blt_eq.mp hq; omega
          | false => rfl
        have e100 : 100 + ft - 100 = ft := by omega
        unfold cP at h1
        dsimp only at h1
        rw [hge] at h1
        dsimp only at h1
        rw [e100] at h1
        rcases kd with _ | _ | kd
        · have hc : (Nat.beq ft 0 && allJ (fun _ v => eqV (s0V x) v) 0 vs) = true := hc
          rw [Bool.and_eq_true] at hc
          obtain rfl : ft = 0 := Nat.eq_of_beq_eq_true hc.1
          have h1 : H[base + posO t i]? = some (arrV (ca 0) vs.length (fun j => .int (iInt rho (vs.getD j (vI 0))))) := h1
          show H[base + posO t i]? = some (arrV (ca 0) vs.length (fun j => .int (sGet (S0 rho, S0 rho) x i j)))
          rw [h1]
          congr 1
          apply arrV_cong
          intro j hj
          have hv := allJ_at hc.2 (List.getElem?_eq_getElem hj)
          rw [sG0, eqV_eq hv, getD_at (List.getElem?_eq_getElem hj)]
        · have hc : (Nat.beq ft 1 && allJ (fun _ v => eqV (s0V x) v && is01 v) 0 vs) = true := hc
          rw [Bool.and_eq_true] at hc
          obtain rfl : ft = 1 := Nat.eq_of_beq_eq_true hc.1
          have h1 : H[base + posO t i]? = some (arrV (ca 1) vs.length (fun j => .int (iInt rho (vs.getD j (vI 0))))) := h1
          show H[base + posO t i]? = some (arrV (ca 1) vs.length (fun j => .int (nz (sGet (S0 rho, S0 rho) x i j))))
          rw [h1]
          congr 1
          apply arrV_cong
          intro j hj
          have hv := allJ_at hc.2 (List.getElem?_eq_getElem hj)
          rw [Bool.and_eq_true] at hv
          rw [sG0, eqV_eq hv.1, getD_at (List.getElem?_eq_getElem hj), is01_nz hv.2]
        · have key : ∀ g : Nat → Nat, (Nat.blt 1 ft && (!Nat.beq x 63 && allJ (fun j v => isRf (posO x (g j)) v) 0 vs)) = true → H[base + posO t i]? = some (arrV (ca ft) vs.length (fun j => va_rf (some (adF base bs x (g j))))) := by
            intro g hc
            rw [Bool.and_eq_true, Bool.and_eq_true] at hc
            have h2 : Nat.blt (100 + ft) 102 = false := by
              cases hq : Nat.blt (100 + ft) 102 with
              | true =>
                have := Nat.blt_eq.mp hq
                have := Nat.blt_eq.mp hc.1
                omega
              | false => rfl
            rw [h2] at h1
            have h1 : H[base + posO t i]? = some (arrV (ca ft) vs.length (fun j => va_rf (iRef (adA base bs) (vs.getD j vN)))) := h1
            rw [h1]
            congr 1
            apply arrV_cong
            intro j hj
            have hv := allJ_at hc.2.2 (List.getElem?_eq_getElem hj)
            rw [Nat.zero_add] at hv
            rw [getD_at (List.getElem?_eq_getElem hj), (isRf_eq (base := base) (bs := bs) (rho := rho) (nb63 hc.2.1) hv rfl).2]
          rcases kd with _ | _ | kd
          · exact key (fun j => j) hc
          · exact key (fun j => a * i + j) hc
          · exact key (fun j => a * i + j + b) hc
      · cases hc
theorem tr_P (hP : va_P D vwC (wA (cP (adA base bs) rho ca) base hM3) H) : va_P D vwC (wS (adF base bs) ca (S0 rho, S0 rho)) H := by
  intro k q hk
  unfold wS at hk
  rw [List.getElem?_map] at hk
  cases ho : OB[k]? with
  | none => rw [ho] at hk; cases hk
  | some r =>
    rw [ho] at hk
    cases hk
    exact tr_at hP (List.mem_of_getElem? ho)
theorem tr_D : va_D (fun q => base ≤ q) (wS (adF base bs) ca (S0 rho, S0 rho)) := by
  have key : ∀ (k : Nat) (q : Nat × va_E), (wS (adF base bs) ca (S0 rho, S0 rho))[k]? = some q → ∃ p, invL[k]? = some p ∧ q.1 = base + p := by
    intro k q hk
    unfold wS at hk
    rw [List.getElem?_map] at hk
    cases ho : OB[k]? with
    | none => rw [ho] at hk; cases hk
    | some r =>
      rw [ho] at hk
      cases hk
      have hc := List.all_eq_true.mp cel_ok _ (List.mem_of_getElem? ho)
      unfold celB at hc
      rw [Bool.and_eq_true] at hc
      refine ⟨posO r.1 r.2, ?_, adF_ne (nb63 hc.1)⟩
      unfold invL
      rw [List.getElem?_map, ho]
      rfl
  refine ⟨fun i j p q hi hj hpq => ?_, fun k q hk => ?_⟩
  · obtain ⟨p1, h1, e1⟩ := key _ _ hi
    obtain ⟨p2, h2, e2⟩ := key _ _ hj
    have e3 : p1 = p2 := by
      rw [e1, e2] at hpq
      omega
    subst e3
    exact (List.getElem?_inj (List.getElem?_eq_some_iff.mp h1).1 inv_nd).mp (h1.trans h2.symm)
  · obtain ⟨p1, -, e1⟩ := key _ _ hk
    show base ≤ q.1
    omega
end aTr2

