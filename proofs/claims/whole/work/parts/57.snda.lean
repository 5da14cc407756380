/-! The growing heap on the machine. -/
def adA (base bs t i : Nat) : Nat := match Nat.beq t 63 with
  | true => bs
  | false => base + i
def iInt (rho : Nat → Int32) (v : iV) : Int32 := match v with
  | Sum.inl x => x
  | Sum.inr (Sum.inr (Sum.inr k)) => rho k
  | _ => 0
def iRef (ad : Nat → Nat → Nat) (v : iV) : Option Nat := match v with
  | Sum.inr (Sum.inr (Sum.inl (some q))) => some (ad q.1 q.2)
  | _ => none
def cP (ad : Nat → Nat → Nat) (rho : Nat → Int32) (ca : Nat → ClassId) (q : Nat × List iV) : va_E := match Nat.blt q.1 64 with
  | true => .inr (q.1, q.2.map (iTv ad rho))
  | false => match Nat.blt q.1 102 with
    | true => .inl (ca (q.1 - 100), q.2.length, .inl (fun j => iInt rho (q.2.getD j (vI 0))))
    | false => .inl (ca (q.1 - 100), q.2.length, .inr (.inr (.inr (.inr (fun j => iRef ad (q.2.getD j vN))))))
def wA (cp : Nat × List iV → va_E) : Nat → HA → va_W
  | _, [] => []
  | n, c :: r => (n, cp c) :: wA cp (n + 1) r
theorem wA_at {cp : Nat × List iV → va_E} : ∀ {h : HA} {n k : Nat}, (wA cp n h)[k]? = (h[k]?).map (fun c => (n + k, cp c)) := by
  intro h
  induction h with
  | nil => intro n k; rfl
  | cons c r ih =>
    intro n k
    cases k with
    | zero => rfl
    | succ k =>
      show (wA cp (n + 1) r)[k]? = (r[k]?).map _
      rw [ih, show n + 1 + k = n + (k + 1) by omega]
theorem wA_set {cp : Nat × List iV → va_E} : ∀ {h : HA} {n k : Nat} {c : Nat × List iV}, wA cp n (h.set k c) = (wA cp n h).set k (n + k, cp c) := by
  intro h
  induction h with
  | nil => intro n k c; rfl
  | cons a r ih =>
    intro n k c
    cases k with
    | zero => rfl
    | succ k =>
      show (n, cp a) :: wA cp (n + 1) (r.set k c) = (n, cp a) :: (wA cp (n + 1) r).set k _
      rw [ih, show n + 1 + k = n + (k + 1) by omega]
theorem wA_app {cp : Nat × List iV → va_E} : ∀ {h : HA} {n : Nat} {c : Nat × List iV}, wA cp n (h ++ [c]) = wA cp n h ++ [(n + h.length, cp c)] := by
  intro h
  induction h with
  | nil => intro n c; rfl
  | cons a r ih =>
    intro n c
    show (n, cp a) :: wA cp (n + 1) (r ++ [c]) = (n, cp a) :: (wA cp (n + 1) r ++ _)
    rw [ih, List.length_cons, show n + 1 + r.length = n + (r.length + 1) by omega]
theorem wA_D {cp : Nat × List iV → va_E} {h : HA} {n : Nat} : va_D (fun q => n ≤ q) (wA cp n h) := by
  refine ⟨fun i j p q hi hj hpq => ?_, fun k q hk => ?_⟩
  · rw [wA_at] at hi hj
    cases h1 : h[i]? with
    | none => rw [h1] at hi; cases hi
    | some a => cases h2 : h[j]? with
      | none => rw [h2] at hj; cases hj
      | some b =>
        rw [h1] at hi
        rw [h2] at hj
        cases hi
        cases hj
        have : n + i = n + j := hpq
        omega
  · rw [wA_at] at hk
    cases h1 : h[k]? with
    | none => rw [h1] at hk; cases hk
    | some a =>
      rw [h1] at hk
      cases hk
      exact Nat.le_add_right _ _
theorem wA_len {cp : Nat × List iV → va_E} {D : va_G} {cl : List vw_C} {h : HA} {n : Nat} {H : Heap} (hP : va_P D cl (wA cp n h) H) : h = [] ∨ n + h.length ≤ H.size := by
  cases h with
  | nil => exact Or.inl rfl
  | cons a r =>
    right
    have hl : r.length < (a :: r).length := by simp
    have h1 : (wA cp n (a :: r))[r.length]? = some (n + r.length, cp (a :: r)[r.length]) := by
      rw [wA_at, List.getElem?_eq_getElem hl]
      rfl
    have := (hP _ _ h1).lt
    simp only [List.length_cons]
    omega
theorem iTv_cong {ad ad' : Nat → Nat → Nat} {rho rho' : Nat → Int32} {t : Nat} : (dfA t).map (iTv ad rho) = (dfA t).map (iTv ad' rho') := by
  unfold dfA
  rw [List.map_map, List.map_map]
  apply List.map_congr_left
  intro q _
  show iTv ad rho (dfV q.1) = iTv ad' rho' (dfV q.1)
  unfold dfV
  split <;> rfl
/-- the words for making -/
def aoN : List String := ["StreamLink$End", "StreamLink$Packet", "StreamLink$Path", "StreamLink$SentWord", "StreamLink$Word"]
def ckB (own : Nat) (q : Nat × Nat × Nat × Nat × Nat × Nat × Nat) : Bool := match q with
  | (k, t, ft, p1, p2, p3, p4) => match vwC[t]? with
    | none => false
    | some r => (decide (lw_tbl[p1]? = some (.classLink (cn own) k r.1)) && (decide (lw_tbl[p2]? = some (.instantiable r.1 r.2.2)) && (decide (lw_tbl[p3]? = some (.initialized r.1)) && (Nat.beq (dfA t).length r.2.2 && Nat.blt t 64)))) &&
      ((List.range r.2.2).all (fun j => decide (defaultValue ((parseFieldDescriptor (r.2.1 j).2.2.1).getD .int) = vp_V ((dfA t).map (iTv (fun _ _ => 0) (fun _ => 0))) j)) && (Nat.ble 7 ft || (Nat.blt 1 ft && (decide (ftL.getD ft .int = .object r.1) && decide (r.1 ∈ aoN)))))
set_option maxRecDepth 100000 in
theorem ck_ok : (List.range 15).all (fun own => (ckL.getD own []).all (ckB own)) = true := by decide +kernel
theorem ar_ok : lw_tbl[pArI]? = some (.arrayClass .int) ∧ lw_tbl[pArZ]? = some (.arrayClass .boolean) := by decide +kernel
set_option maxRecDepth 100000 in
theorem ftT_ok : (List.range 7).all (fun ft => Nat.ble ft 1 || (match vwC[ftT.getD ft 99]? with | some r => decide (ftL.getD ft .int = .object r.1) && Nat.blt (ftT.getD ft 99) 64 | none => false)) = true := by decide +kernel
theorem ckO_ok {own k t ft p1 p2 p3 p4 : Nat} (h : ckO own k = some (t, ft, p1, p2, p3, p4)) : ∃ r : vw_C, vwC[t]? = some r ∧ Cond.classLink (cn own) k r.1 ∈ tbG ∧ Cond.instantiable r.1 r.2.2 ∈ tbG ∧ Cond.initialized r.1 ∈ tbG ∧ (dfA t).length = r.2.2 ∧ t < 64 ∧
    (∀ j, j < r.2.2 → defaultValue ((parseFieldDescriptor (r.2.1 j).2.2.1).getD .int) = vp_V ((dfA t).map (iTv (fun _ _ => 0) (fun _ => 0))) j) ∧ (7 ≤ ft ∨ (1 < ft ∧ ftL.getD ft .int = .object r.1 ∧ r.1 ∈ aoN)) := by
  have hm := iLk2_mem h
  have hown : own < 15 := by
    apply Classical.byContradiction
    intro hn
    have : ckL.getD own [] = [] := by
      rw [List.getD_eq_getElem?_getD, List.getElem?_eq_none (show ckL.length ≤ own from Nat.le_trans (by decide) (Nat.le_of_not_lt hn))]
      rfl
    rw [this] at hm
    cases hm
  have h1 := List.all_eq_true.mp (List.all_eq_true.mp ck_ok own (List.mem_range.mpr hown)) _ hm
  unfold ckB at h1
  dsimp only at h1
  split at h1
  · cases h1
  · rename_i r hr
    simp only [Bool.and_eq_true, Bool.or_eq_true, decide_eq_true_eq, Nat.blt_eq, Nat.ble_eq] at h1
    obtain ⟨⟨q1, q2, q3, q4, q5⟩, q6, q7⟩ := h1
    refine ⟨r, hr, tbG_of q1 rfl, tbG_of q2 rfl, tbG_of q3 rfl, Nat.eq_of_beq_eq_true q4, q5, fun j hj => of_decide_eq_true (List.all_eq_true.mp q6 j (List.mem_range.mpr hj)), ?_⟩
    rcases q7 with q7 | ⟨q7, q8, q9⟩
    · exact Or.inl q7
    · exact Or.inr ⟨q7, q8, q9⟩

theorem wA_length {cp : Nat × List iV → va_E} : ∀ {h : HA} {n : Nat}, (wA cp n h).length = h.length := by
  intro h
  induction h with
  | nil => intro n; rfl
  | cons a r ih => intro n; show (wA cp (n + 1) r).length + 1 = r.length + 1; rw [ih]
theorem q_eq {D : va_G} {cp : Nat × List iV → va_E} {base q : Nat} {x : va_E} {h : HA} {H1 : Heap} (hP : va_P D vwC (wA cp base h ++ [(q, x)]) H1) (hD : va_D (fun q => base ≤ q) (wA cp base h ++ [(q, x)])) (hsz : H1.size ≤ base + h.length + 1) : q = base + h.length := by
  have h1 : (wA cp base h ++ [(q, x)])[h.length]? = some (q, x) := by
    rw [List.getElem?_append_right (by rw [wA_length]; exact Nat.le_refl _), wA_length, Nat.sub_self]
    rfl
  have h2 : q < H1.size := (hP _ _ h1).lt
  have h3 : base ≤ q := hD.2 _ _ h1
  apply Classical.byContradiction
  intro hne
  have hlt : q - base < h.length := by omega
  have h4 : (wA cp base h ++ [(q, x)])[q - base]? = some (base + (q - base), cp h[q - base]) := by
    rw [List.getElem?_append_left (by rw [wA_length]; exact hlt), wA_at, List.getElem?_eq_getElem hlt]
    rfl
  have h5 := hD.1 _ _ _ _ h4 h1 (show base + (q - base) = q by omega)
  omega
section aOps
variable {p : Program} {l : Launch} {e : Env} {R : Room} {s : State} {m : MethodId} {args : Array Value} {below : List Frame} {meth : Method} {c : Code} {H : Heap} {locs : List Loc} {cells slots : Nat} {Q : State → Prop}
variable {cc : ByteArray} {pc : Nat} {lsM : Array Slot} {rest : List Value} {D : va_G} {ad : Nat → Nat → Nat} {rho : Nat → Int32} {ca : Nat → ClassId} {Ts : List Cond} {own base : Nat} {h : HA}
def stA (D : va_G) (ad : Nat → Nat → Nat) (rho : Nat → Int32) (ca : Nat → ClassId) (base : Nat) (s : State) (h : HA) (H : Heap) (locs : List Loc) : Prop := va_P D vwC (wA (cP ad rho ca) base h) H ∧ va_S (fun q => base ≤ q) s.heap H locs
theorem W_size {g : JFrame} (k : H.size ≤ s.heap.size + cells → W p l e R s m args below meth c H locs cells slots Q g) : W p l e R s m args below meth c H locs cells slots Q g := fun T hT X => k (by rw [← hT]; exact X.heapSize) T hT X
theorem cP_obj {t : Nat} {vs : List iV} (ht : t < 64) : cP ad rho ca (t, vs) = .inr (t, vs.map (iTv ad rho)) := by
  unfold cP
  rw [Nat.blt_eq.mpr ht]
theorem blt_f {a b : Nat} (h : b ≤ a) : Nat.blt a b = false := by
  cases hb : Nat.blt a b with
  | true => have := Nat.blt_eq.mp hb; omega
  | false => rfl
theorem cP_int {t : Nat} {vs : List iV} (ht : 64 ≤ t) (h2 : t < 102) : cP ad rho ca (t, vs) = .inl (ca (t - 100), vs.length, .inl (fun j => iInt rho (vs.getD j (vI 0)))) := by
  unfold cP
  rw [blt_f ht]
  dsimp only
  rw [Nat.blt_eq.mpr h2]
theorem cP_ref {t : Nat} {vs : List iV} (h2 : 102 ≤ t) : cP ad rho ca (t, vs) = .inl (ca (t - 100), vs.length, .inr (.inr (.inr (.inr (fun j => iRef ad (vs.getD j vN)))))) := by
  unfold cP
  rw [blt_f (show 64 ≤ t by omega)]
  dsimp only
  rw [blt_f h2]
theorem so_newA (hx : p.tables.exec = Jvm.exec) (hb : c.code = cc) (hts : ∀ w ∈ Ts, w.before args s = true) (hTs : ∀ w ∈ tbG, w ∈ Ts) (hown : s.vm.findClass (cn own) = some m.cls) (hK : va_K D vwC (tysS ca) s) (hST : stA D ad rho ca base s h H locs) (hbase : base ≤ s.heap.size) (hsz : s.heap.size + cells = base + h.length)
    {k t ft p1 p2 p3 p4 : Nat} (hk : ckO own k = some (t, ft, p1, p2, p3, p4)) (hc : cells + 1 ≤ R.cells) (hs : slots + (dfA t).length ≤ R.slots) (hd : decode cc pc = .ok (.new k, 3))
    (kk : ∀ H1 : Heap, stA D ad rho ca base s (h ++ [(t, dfA t)]) H1 locs → W p l e R s m args below meth c H1 locs (cells + 1) (slots + (dfA t).length) Q (F0 m (pc + 3) lsM (.ref (base + h.length) :: rest))) : W p l e R s m args below meth c H locs cells slots Q (F0 m pc lsM rest) := by
  obtain ⟨r, hr, w1, w2, w3, hN, ht, hdf, -⟩ := ckO_ok hk
  obtain ⟨c1, c2, c3⟩ := cls_ok hr
  rw [hN] at hs kk
  refine va_new (T := r.2.1) (N := r.2.2) (C := r.1) (ci := t) (fs := (dfA t).map (iTv ad rho)) hx hb hts (fun w hw => hTs w (c1 w hw)) _ c2 hown (hts _ (hTs _ w1)) (hts _ (hTs _ w2)) (hts _ (hTs _ w3)) hK hST.1 wA_D hST.2 (fun q hq => Nat.le_trans hbase hq) hr (fun j hj => ?_) hc hs hd (fun q H1 hP1 hD1 hS1 => W_size (fun hz => ?_))
  · rw [hdf j hj, iTv_cong (ad' := ad) (rho' := rho)]
  · obtain rfl := q_eq hP1 hD1 (by omega)
    refine kk H1 ⟨?_, hS1⟩
    rw [wA_app, cP_obj ht]
    exact hP1
theorem getD_rep {n j : Nat} {v : iV} : (List.replicate n v).getD j v = v := by
  rw [List.getD_eq_getElem?_getD, List.getElem?_replicate]
  split <;> rfl
theorem so_newP (hx : p.tables.exec = Jvm.exec) (hb : c.code = cc) (hts : ∀ w ∈ Ts, w.before args s = true) (hTs : ∀ w ∈ tbG, w ∈ Ts) (hK : va_K D vwC (tysS ca) s) (hST : stA D ad rho ca base s h H locs) (hbase : base ≤ s.heap.size) (hsz : s.heap.size + cells = base + h.length)
    {ft : Nat} {aty : ArrayType} (hft : (ft = 0 ∧ aty = .int) ∨ (ft = 1 ∧ aty = .boolean)) {n : Int32} (hn : ¬ n < 0) (hn2 : n.toNatClampNeg ≤ 4096) (hc : cells + 1 ≤ R.cells) (hs : slots + n.toNatClampNeg ≤ R.slots) (hd : decode cc pc = .ok (.newarray aty, 2))
    (kk : ∀ H1 : Heap, stA D ad rho ca base s (h ++ [(100 + ft, List.replicate n.toNatClampNeg (vI 0))]) H1 locs → W p l e R s m args below meth c H1 locs (cells + 1) (slots + n.toNatClampNeg) Q (F0 m (pc + 2) lsM (.ref (base + h.length) :: rest))) : W p l e R s m args below meth c H locs cells slots Q (F0 m pc lsM (.int n :: rest)) := by
  have harr : (Cond.arrayClass (newarray.typeOf aty)).before args s = true := by
    rcases hft with ⟨-, rfl⟩ | ⟨-, rfl⟩
    · exact hts _ (hTs _ (tbG_of ar_ok.1 rfl))
    · exact hts _ (hTs _ (tbG_of ar_ok.2 rfl))
  refine va_newa (ty := newarray.typeOf aty) (N' := n.toNatClampNeg) (a0 := (n.toNatClampNeg, .inl (fun _ => 0))) hx hb harr rfl hK hST.1 wA_D hST.2 (fun q hq => Nat.le_trans hbase hq) (fun cA => ?_) hn rfl ?_ hc hs hd (fun q cA H1 hK1 hP1 hD1 hS1 => W_size (fun hz => ?_))
  · rcases hft with ⟨-, rfl⟩ | ⟨-, rfl⟩
    · exact vp_cell_i _ _ _
    · exact vp_cell_i _ _ _
  · rcases hft with ⟨-, rfl⟩ | ⟨-, rfl⟩
    · show n.toNatClampNeg * 4 ≤ 536870912; omega
    · show n.toNatClampNeg * 1 ≤ 536870912; omega
  · obtain rfl := q_eq hP1 hD1 (by omega)
    have hlast := hK1.2 (tysS ca).length (cA, newarray.typeOf aty) (by rw [List.getElem?_append_right (Nat.le_refl _), Nat.sub_self]; rfl)
    have hcA : cA = ca ft := by
      rcases hft with ⟨rfl, rfl⟩ | ⟨rfl, rfl⟩
      · have h2 := (hK.2 0 _ (tysS_at (by decide))).2
        exact Option.some.inj (hlast.2.symm.trans h2)
      · have h2 := (hK.2 1 _ (tysS_at (by decide))).2
        exact Option.some.inj (hlast.2.symm.trans h2)
    subst hcA
    refine kk H1 ⟨?_, hS1⟩
    have e1 : cP ad rho ca (100 + ft, List.replicate n.toNatClampNeg (vI 0)) = .inl (ca ft, n.toNatClampNeg, .inl (fun _ => 0)) := by
      rw [cP_int (by omega) (by rcases hft with ⟨rfl, -⟩ | ⟨rfl, -⟩ <;> omega), List.length_replicate, show 100 + ft - 100 = ft by omega]
      congr 4
      funext j
      rw [getD_rep]
      rfl
    rw [wA_app, e1]
    exact hP1
theorem so_newR (hx : p.tables.exec = Jvm.exec) (hb : c.code = cc) (hts : ∀ w ∈ Ts, w.before args s = true) (hTs : ∀ w ∈ tbG, w ∈ Ts) (hown : s.vm.findClass (cn own) = some m.cls) (hao : ∀ C ∈ aoN, va_AO C s) (hK : va_K D vwC (tysS ca) s) (hST : stA D ad rho ca base s h H locs) (hbase : base ≤ s.heap.size) (hsz : s.heap.size + cells = base + h.length)
    {k t ft p1 p2 p3 p4 : Nat} (hk : ckO own k = some (t, ft, p1, p2, p3, p4)) (hft : ft < 7) {n : Int32} (hn : ¬ n < 0) (hn2 : n.toNatClampNeg ≤ 4096) (hc : cells + 1 ≤ R.cells) (hs : slots + n.toNatClampNeg ≤ R.slots) (hd : decode cc pc = .ok (.anewarray k, 3))
    (kk : ∀ H1 : Heap, stA D ad rho ca base s (h ++ [(100 + ft, List.replicate n.toNatClampNeg vN)]) H1 locs → W p l e R s m args below meth c H1 locs (cells + 1) (slots + n.toNatClampNeg) Q (F0 m (pc + 3) lsM (.ref (base + h.length) :: rest))) : W p l e R s m args below meth c H locs cells slots Q (F0 m pc lsM (.int n :: rest)) := by
  obtain ⟨r, hr, w1, -, -, -, -, -, h7⟩ := ckO_ok hk
  obtain ⟨f1, f2, f3⟩ : 1 < ft ∧ ftL.getD ft .int = .object r.1 ∧ r.1 ∈ aoN := by
    rcases h7 with h7 | h7
    · omega
    · exact h7
  refine va_newq (C := r.1) (N' := n.toNatClampNeg) hx hb hown (hts _ (hTs _ w1)) (hao _ f3) hK hST.1 wA_D hST.2 (fun q hq => Nat.le_trans hbase hq) hn rfl (by omega) hc hs hd (fun q cA H1 hK1 hP1 hD1 hS1 => W_size (fun hz => ?_))
  obtain rfl := q_eq hP1 hD1 (by omega)
  have hlast := hK1.2 (tysS ca).length (cA, .object r.1) (by rw [List.getElem?_append_right (Nat.le_refl _), Nat.sub_self]; rfl)
  have hcA : cA = ca ft := by
    have h2 := hK.2 ft _ (tysS_at hft)
    rw [f2] at h2
    obtain ⟨_, _, -, -, -, e1⟩ := hlast.2
    obtain ⟨_, _, -, -, -, e2⟩ := h2.2
    exact Option.some.inj (e1.symm.trans e2)
  subst hcA
  refine kk H1 ⟨?_, hS1⟩
  have e1 : cP ad rho ca (100 + ft, List.replicate n.toNatClampNeg vN) = .inl (ca ft, n.toNatClampNeg, .inr (.inr (.inr (.inr (fun _ => none))))) := by
    rw [cP_ref (by omega), List.length_replicate, show 100 + ft - 100 = ft by omega]
    congr 7
    funext j
    rw [getD_rep]
    rfl
  rw [wA_app, e1]
  exact hP1
end aOps
