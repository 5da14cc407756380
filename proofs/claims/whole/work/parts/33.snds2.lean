/-! Each heap instruction of the static heap, on the machine. -/
theorem iLk2_mem {α : Type} {l : List (Nat × α)} {k : Nat} {x : α} (h : iLk2 l k = some x) : (k, x) ∈ l := by
  induction l with
  | nil => cases h
  | cons e r ih =>
    unfold iLk2 at h
    split at h
    · rename_i hb
      have hb' : e.1 = k := Nat.eq_of_beq_eq_true hb
      have hx : e.2 = x := Option.some.inj h
      rw [← hb', ← hx]
      exact List.mem_cons_self
    · exact List.mem_cons_of_mem _ (ih h)
theorem tbG_of {w : Cond} {k : Nat} (h : lw_tbl[k]? = some w) (hg : goodWord w = true) : w ∈ tbG := List.mem_filter.mpr ⟨List.mem_of_getElem? h, hg⟩
/-- a field that code names -/
theorem flO_ok {own k cls fno kd x a b : Nat} (h : flO own k = some (cls, fno, kd, x, a, b)) : ∃ r : vw_C, vwC[cls]? = some r ∧ fno < r.2.2 ∧ cls < 64 ∧ Cond.fieldLink (cn own) k (r.2.1 fno).1 (r.2.1 fno).2.1 (r.2.1 fno).2.2.1 ∈ tbG ∧ (fkL.getD cls [])[fno]? = some (kd, x, a, b) ∧
    ((kd = 0 ∧ parseFieldDescriptor (r.2.1 fno).2.2.1 = some .int ∧ (r.2.1 fno).2.2.2 = false) ∨ (kd = 1 ∧ parseFieldDescriptor (r.2.1 fno).2.2.1 = some .boolean ∧ (r.2.1 fno).2.2.2 = false) ∨ 1 < kd) := by
  have hm := iLk2_mem h
  have hown : own < 15 := by
    apply Classical.byContradiction
    intro hn
    have : flL.getD own [] = [] := by
      rw [List.getD_eq_getElem?_getD, List.getElem?_eq_none (show flL.length ≤ own from Nat.le_trans (by decide) (Nat.le_of_not_lt hn))]
      rfl
    rw [this] at hm
    cases hm
  have h1 := List.all_eq_true.mp fl_ok own (List.mem_range.mpr hown)
  rw [Bool.and_eq_true] at h1
  obtain ⟨h1, hlen⟩ := h1
  have hlen := of_decide_eq_true hlen
  obtain ⟨n, hn⟩ := List.getElem?_of_mem hm
  have hn2 : n < (flP.getD own []).length := by
    rw [← hlen]
    exact (List.getElem?_eq_some_iff.mp hn).1
  have hz : ((k, cls, fno, kd, x, a, b), (flP.getD own [])[n]) ∈ (flL.getD own []).zip (flP.getD own []) := by
    apply List.mem_of_getElem? (i := n)
    rw [List.getElem?_zip_eq_some]
    exact ⟨hn, List.getElem?_eq_getElem hn2⟩
  have h2 := List.all_eq_true.mp h1 _ hz
  unfold flB at h2
  dsimp only at h2
  split at h2
  · cases h2
  · rename_i r hr
    simp only [Bool.and_eq_true, Bool.or_eq_true, Nat.blt_eq, decide_eq_true_eq] at h2
    obtain ⟨q1, q2, q3, q4, q5⟩ := h2
    refine ⟨r, hr, q1, q2, tbG_of q3 rfl, q4, ?_⟩
    rcases q5 with ⟨z1, z2⟩ | ⟨z1, z2⟩ | z
    · exact Or.inl ⟨Nat.eq_of_beq_eq_true z1, z2⟩
    · exact Or.inr (Or.inl ⟨Nat.eq_of_beq_eq_true z1, z2⟩)
    · exact Or.inr (Or.inr z)
/-- a class's words -/
theorem cls_ok {c : Nat} {r : vw_C} (h : vwC[c]? = some r) : (∀ w ∈ u_ws r.1 r.2.1 r.2.2, w ∈ tbG) ∧ (∀ k, k < r.2.2 → parseFieldDescriptor (r.2.1 k).2.2.1 = some ((parseFieldDescriptor (r.2.1 k).2.2.1).getD .int)) ∧ ∀ a, a < r.2.2 → ∀ b, b < r.2.2 → a ≠ b → (r.2.1 a).2.1 ≠ (r.2.1 b).2.1 := by
  have hlt : c < clP.length := by
    have : c < vwC.length := (List.getElem?_eq_some_iff.mp h).1
    exact Nat.lt_of_lt_of_le this (by decide)
  have hz : (r, clP[c]) ∈ vwC.zip clP := by
    apply List.mem_of_getElem? (i := c)
    rw [List.getElem?_zip_eq_some]
    exact ⟨h, List.getElem?_eq_getElem hlt⟩
  have h2 := List.all_eq_true.mp cl_ok _ hz
  unfold clB at h2
  dsimp only at h2
  simp only [Bool.and_eq_true, decide_eq_true_eq] at h2
  obtain ⟨⟨q1, q2⟩, q3, q4⟩ := h2
  refine ⟨fun w hw => ?_, fun k hk => ?_, fun a ha b hb hab => ?_⟩
  · have hg := List.all_eq_true.mp q2 w hw
    rw [q1] at hw
    obtain ⟨i, -, hi⟩ := List.mem_filterMap.mp hw
    exact tbG_of hi hg
  · have := List.all_eq_true.mp q3 k (List.mem_range.mpr hk)
    cases hp : parseFieldDescriptor (r.2.1 k).2.2.1 with
    | none => rw [hp] at this; cases this
    | some ty => rfl
  · have := List.all_eq_true.mp (List.all_eq_true.mp q4 a (List.mem_range.mpr ha)) b (List.mem_range.mpr hb)
    simp only [Bool.or_eq_true, decide_eq_true_eq, Bool.not_eq_true', decide_eq_false_iff_not] at this
    exact this.resolve_left hab
theorem cS_obj {ad : Nat → Nat → Nat} {ca : Nat → ClassId} {S : SS} {t i : Nat} (h : t < 64) : cS ad ca S t i = .inr (t, (fkL.getD t []).map (fun q => fVal ad S q i)) := by
  unfold cS
  rw [Nat.blt_eq.mpr h]
theorem cS_arr {ad : Nat → Nat → Nat} {ca : Nat → ClassId} {S : SS} {t i : Nat} {q : (Nat × Nat × Nat × Nat × Nat) × Nat × Nat} (h : 64 ≤ t) (hq : akL[t - 64]? = some q) : cS ad ca S t i = cA ad ca S q i := by
  unfold cS
  have : Nat.blt t 64 = false := by
    cases hb : Nat.blt t 64 with
    | true => have := Nat.blt_eq.mp hb; omega
    | false => rfl
  rw [this]
  dsimp only
  rw [hq]
section sOps
variable {p : Program} {l : Launch} {e : Env} {R : Room} {s : State} {m : MethodId} {args : Array Value} {below : List Frame} {meth : Method} {c : Code} {H : Heap} {locs : List Loc} {cells slots : Nat} {Q : State → Prop}
variable {cc : ByteArray} {pc : Nat} {lsM : Array Slot} {rest : List Value} {D : va_G} {ad : Nat → Nat → Nat} {ca : Nat → ClassId} {A : Nat → Prop} {Ts : List Cond} {own : Nat} {S : SS}
theorem so_get (hx : p.tables.exec = Jvm.exec) (hb : c.code = cc) (hts : ∀ w ∈ Ts, w.before args s = true) (hTs : ∀ w ∈ tbG, w ∈ Ts) (hown : s.vm.findClass (cn own) = some m.cls) (hK : va_K D vwC (tysS ca) s) (hP : va_P D vwC (wS ad ca S) H)
    {t j k fno kd x a b : Nat} (ho : (t, j) ∈ OB) (hf : flO own k = some (t, fno, kd, x, a, b)) (hd : decode cc pc = .ok (.getfield k, 3))
    (kk : W p l e R s m args below meth c H locs cells slots Q (F0 m (pc + 3) lsM (fVal ad S (kd, x, a, b) j :: rest))) : W p l e R s m args below meth c H locs cells slots Q (F0 m pc lsM (.ref (ad t j) :: rest)) := by
  obtain ⟨r, hr, h1, h2, h3, h4, -⟩ := flO_ok hf
  obtain ⟨q0, hq⟩ := OB_at ho
  have he := wS_at (ad := ad) (ca := ca) (S := S) hq
  rw [cS_obj h2] at he
  refine va_get (T := r.2.1) (N := r.2.2) (C := r.1) (ref := (r.2.1 fno).1) (ci := t) hx hb hts (fun w hw => hTs w ((cls_ok hr).1 w hw)) hown hK hP q0 he hr fno h1 (hts _ (hTs _ h3)) (fun _ h => h) (v := fVal ad S (kd, x, a, b) j) ?_ hd kk
  rw [List.getElem?_map, h4]
  rfl
theorem fVal_put {S : SS} {q : Nat × Nat × Nat × Nat} {x i : Nat} {v : Int32} {kd a b : Nat} (hkd : kd = 0 ∨ (kd = 1 ∧ iIsB v = true)) (hq : q = (kd, x, a, b)) : fVal ad (sPut S x i 0 v) q i = .int v := by
  subst hq
  rcases hkd with rfl | ⟨rfl, hv⟩
  · show Value.int (sGet (sPut S x i 0 v) x i 0) = _
    rw [sGet_sPut, if_pos ⟨rfl, rfl, rfl⟩]
  · show Value.int (nz (sGet (sPut S x i 0 v) x i 0)) = _
    rw [sGet_sPut, if_pos ⟨rfl, rfl, rfl⟩]
    simp only [iIsB, Bool.or_eq_true, decide_eq_true_eq] at hv
    rcases hv with rfl | rfl <;> rfl
end sOps
