/-! Which references may occur; heap instructions together. -/
def okR (t i : Nat) : Prop := (t, i) ∈ OB ∨ (t = 63 ∧ i = 0)
def vkS (k : iC) : Prop := (∀ t i, vR t i ∈ k.2.2 → okR t i) ∧ ∀ n t i, iGet k.2.1 n = some (vR t i) → okR t i
theorem vk_cons {pc pc' : Nat} {ls : iL} {st : List iV} {v : iV} (h : vkS (pc, ls, st)) (hP : ∀ t i, v = vR t i → okR t i) : vkS (pc', ls, v :: st) := by
  refine ⟨fun t i hm => ?_, h.2⟩
  rcases List.mem_cons.mp hm with q | q
  · exact hP t i q.symm
  · exact h.1 t i q
theorem vk_tail {pc pc' : Nat} {ls : iL} {st : List iV} {v : iV} (h : vkS (pc, ls, v :: st)) : vkS (pc', ls, st) := ⟨fun t i hm => h.1 t i (List.mem_cons_of_mem _ hm), h.2⟩
theorem vk_pc {pc pc' : Nat} {ls : iL} {st : List iV} (h : vkS (pc, ls, st)) : vkS (pc', ls, st) := h
theorem vk_head {pc : Nat} {ls : iL} {st : List iV} {v : iV} (h : vkS (pc, ls, v :: st)) : ∀ t i, v = vR t i → okR t i := fun t i q => h.1 t i (by rw [q]; exact List.mem_cons_self)
theorem vk_loc {pc pc' k : Nat} {ls ls' : iL} {st : List iV} {v : iV} (h : vkS (pc, ls, st)) (hP : ∀ t i, v = vR t i → okR t i) (hs : iSt1 ls k v = some ls') : vkS (pc', ls', st) := by
  refine ⟨h.1, fun n t i hg => ?_⟩
  obtain ⟨-, -, hq⟩ := iSt1_get hs
  rcases hq n _ hg with ⟨-, q⟩ | ⟨-, q, -⟩
  · exact hP t i q.symm
  · exact h.2 n t i q
theorem vk_loc2 {pc pc' k : Nat} {ls ls' : iL} {st : List iV} {v : iV} (h : vkS (pc, ls, st)) (hP : ∀ t i, v = vR t i → okR t i) (hs : iSt2 ls k v = some ls') : vkS (pc', ls', st) := by
  unfold iSt2 at hs
  split at hs
  · cases hs
  · rename_i l1 h1
    have h3 := vk_loc (pc' := pc) h hP h1
    refine ⟨h.1, fun n t i hg => ?_⟩
    rw [iPut_get hs n] at hg
    by_cases hn : n = k + 1
    · rw [if_pos hn] at hg
      cases hg
    · rw [if_neg hn] at hg
      exact h3.2 n t i hg
set_option maxHeartbeats 4000000 in
theorem vk_stp {i : iI} {ts : iX} {k k' : iC} (h : iStp i ts k = some k') (hv : vkS k) : vkS k' := by
  obtain ⟨pc, ls, st⟩ := k
  unfold iStp at h
  split at h
  · cases h; exact vk_cons hv (fun _ _ q => by cases q)
  · cases h; exact vk_cons hv (fun _ _ q => by cases q)
  · cases h; exact vk_cons hv (fun _ _ q => by cases q)
  · cases h; exact vk_cons hv (fun _ _ q => by cases q)
  · cases h; exact vk_cons hv (fun _ _ q => by cases q)
  · cases h; exact vk_cons hv (fun _ _ q => by cases q)
  · unfold iLdI at h
    split at h
    · cases h; exact vk_cons hv (fun _ _ q => by cases q)
    · cases h; exact vk_cons hv (fun _ _ q => by cases q)
    · cases h
  · unfold iLdI at h
    split at h
    · cases h; exact vk_cons hv (fun _ _ q => by cases q)
    · cases h; exact vk_cons hv (fun _ _ q => by cases q)
    · cases h
  · unfold iLdL at h
    split at h
    · cases h; exact vk_cons hv (fun _ _ q => by cases q)
    · cases h
  · unfold iLdL at h
    split at h
    · cases h; exact vk_cons hv (fun _ _ q => by cases q)
    · cases h
  · unfold iLdA at h
    split at h
    · rename_i hg; cases h; exact vk_cons hv (fun t i q => by cases q; exact hv.2 _ _ _ hg)
    · cases h
  · unfold iLdA at h
    split at h
    · rename_i hg; cases h; exact vk_cons hv (fun t i q => by cases q; exact hv.2 _ _ _ hg)
    · cases h
  · unfold iStI at h
    dsimp only at h
    split at h
    · split at h
      · cases h
      · rename_i hs; cases h; exact vk_loc (vk_tail (pc' := pc) hv) (vk_head hv) hs
    · cases h
  · unfold iStI at h
    dsimp only at h
    split at h
    · split at h
      · cases h
      · rename_i hs; cases h; exact vk_loc (vk_tail (pc' := pc) hv) (vk_head hv) hs
    · cases h
  · unfold iStL at h
    dsimp only at h
    split at h
    · split at h
      · cases h
      · rename_i hs; cases h; exact vk_loc2 (vk_tail (pc' := pc) hv) (vk_head hv) hs
    · cases h
  · unfold iStL at h
    dsimp only at h
    split at h
    · split at h
      · cases h
      · rename_i hs; cases h; exact vk_loc2 (vk_tail (pc' := pc) hv) (vk_head hv) hs
    · cases h
  · unfold iStA at h
    dsimp only at h
    split at h
    · split at h
      · cases h
      · rename_i hs; cases h; exact vk_loc (vk_tail (pc' := pc) hv) (vk_head hv) hs
    · cases h
  · unfold iStA at h
    dsimp only at h
    split at h
    · split at h
      · cases h
      · rename_i hs; cases h; exact vk_loc (vk_tail (pc' := pc) hv) (vk_head hv) hs
    · cases h
  · unfold iInc at h
    dsimp only at h
    split at h
    · split at h
      · cases h
      · rename_i hs; cases h; exact vk_loc hv (fun _ _ q => by cases q) hs
    · cases h
  · unfold iBin at h
    dsimp only at h
    split at h
    · cases h; exact vk_cons (vk_tail (pc' := pc) (vk_tail (pc' := pc) hv)) (fun _ _ q => by cases q)
    · cases h
  · unfold iBin at h
    dsimp only at h
    split at h
    · cases h; exact vk_cons (vk_tail (pc' := pc) (vk_tail (pc' := pc) hv)) (fun _ _ q => by cases q)
    · cases h
  · unfold iBin at h
    dsimp only at h
    split at h
    · cases h; exact vk_cons (vk_tail (pc' := pc) (vk_tail (pc' := pc) hv)) (fun _ _ q => by cases q)
    · cases h
  · unfold iBin at h
    dsimp only at h
    split at h
    · cases h; exact vk_cons (vk_tail (pc' := pc) (vk_tail (pc' := pc) hv)) (fun _ _ q => by cases q)
    · cases h
  · unfold iBin at h
    dsimp only at h
    split at h
    · cases h; exact vk_cons (vk_tail (pc' := pc) (vk_tail (pc' := pc) hv)) (fun _ _ q => by cases q)
    · cases h
  · unfold iBin at h
    dsimp only at h
    split at h
    · cases h; exact vk_cons (vk_tail (pc' := pc) (vk_tail (pc' := pc) hv)) (fun _ _ q => by cases q)
    · cases h
  · unfold iBin at h
    dsimp only at h
    split at h
    · cases h; exact vk_cons (vk_tail (pc' := pc) (vk_tail (pc' := pc) hv)) (fun _ _ q => by cases q)
    · cases h
  · unfold iBin at h
    dsimp only at h
    split at h
    · cases h; exact vk_cons (vk_tail (pc' := pc) (vk_tail (pc' := pc) hv)) (fun _ _ q => by cases q)
    · cases h
  · unfold iBin at h
    dsimp only at h
    split at h
    · cases h; exact vk_cons (vk_tail (pc' := pc) (vk_tail (pc' := pc) hv)) (fun _ _ q => by cases q)
    · cases h
  · unfold iDiv at h
    dsimp only at h
    split at h
    · split at h
      · cases h
      · cases h; exact vk_cons (vk_tail (pc' := pc) (vk_tail (pc' := pc) hv)) (fun _ _ q => by cases q)
    · cases h
  · unfold iDiv at h
    dsimp only at h
    split at h
    · split at h
      · cases h
      · cases h; exact vk_cons (vk_tail (pc' := pc) (vk_tail (pc' := pc) hv)) (fun _ _ q => by cases q)
    · cases h
  · unfold iNeg at h
    dsimp only at h
    split at h
    · cases h; exact vk_cons (vk_tail (pc' := pc) hv) (fun _ _ q => by cases q)
    · cases h
  · unfold iI2L at h
    dsimp only at h
    split at h
    · cases h; exact vk_cons (vk_tail (pc' := pc) hv) (fun _ _ q => by cases q)
    · cases h
  · unfold iLSub at h
    dsimp only at h
    split at h
    · cases h; exact vk_cons (vk_tail (pc' := pc) (vk_tail (pc' := pc) hv)) (fun _ _ q => by cases q)
    · cases h
  · unfold iLCmp at h
    dsimp only at h
    split at h
    · cases h; exact vk_cons (vk_tail (pc' := pc) (vk_tail (pc' := pc) hv)) (fun _ _ q => by cases q)
    · cases h
  · unfold iDup at h
    dsimp only at h
    split at h
    · split at h
      · cases h; exact vk_cons hv (vk_head hv)
      · cases h
    · cases h
  · unfold iPop at h
    dsimp only at h
    split at h
    · split at h
      · cases h; exact vk_tail hv
      · cases h
    · cases h
  · unfold iDupX1 at h
    dsimp only at h
    split at h
    · split at h
      · cases h; exact vk_cons (vk_cons (pc' := pc) (vk_cons (pc' := pc) (vk_tail (pc' := pc) (vk_tail (pc' := pc) hv)) (vk_head hv)) (vk_head (vk_tail (pc' := pc) hv))) (vk_head hv)
      · cases h
    · cases h
  · unfold iDupX2 at h
    dsimp only at h
    split at h
    · split at h
      · cases h; exact vk_cons (vk_cons (pc' := pc) (vk_cons (pc' := pc) (vk_cons (pc' := pc) (vk_tail (pc' := pc) (vk_tail (pc' := pc) (vk_tail (pc' := pc) hv))) (vk_head hv)) (vk_head (vk_tail (pc' := pc) (vk_tail (pc' := pc) hv)))) (vk_head (vk_tail (pc' := pc) hv))) (vk_head hv)
      · cases h
    · cases h
  · unfold iDup2 at h
    dsimp only at h
    split at h
    · split at h
      · cases h; exact vk_cons (vk_cons (pc' := pc) hv (vk_head (vk_tail (pc' := pc) hv))) (vk_head hv)
      · cases h
    · cases h
  · unfold iBr2 at h
    dsimp only at h
    split at h
    · split at h
      · cases h; exact vk_tail (pc := pc) (vk_tail (pc' := pc) hv)
      · cases h; exact vk_tail (pc := pc) (vk_tail (pc' := pc) hv)
    · cases h
  · unfold iBr1 at h
    dsimp only at h
    split at h
    · split at h
      · cases h; exact vk_tail hv
      · cases h; exact vk_tail hv
    · cases h
  · unfold iGoto at h
    split at h
    · cases h; exact hv
    · cases h
  · unfold iSw at h
    dsimp only at h
    split at h
    · cases h; exact vk_tail hv
    · cases h
  · cases h

theorem okR_get {own k t j fno kd x a b : Nat} (hf : flO own k = some (t, fno, kd, x, a, b)) (h : okR t j) : (t, j) ∈ OB := by
  obtain ⟨r, hr, -⟩ := flO_ok hf
  rcases h with h | ⟨rfl, -⟩
  · exact h
  · have : (63 : Nat) < vwC.length := (List.getElem?_eq_some_iff.mp hr).1
    exact absurd this (by decide)
theorem okR_ref {own k t j fno kd x a b : Nat} (hf : flO own k = some (t, fno, kd, x, a, b)) (h : (t, j) ∈ OB) : rfB j (kd, x, a, b) = true := by
  obtain ⟨r, hr, -, -, -, h4, -⟩ := flO_ok hf
  exact List.all_eq_true.mp (List.all_eq_true.mp rf_ok _ h) _ (List.mem_of_getElem? h4)
theorem okR_arr {t j : Nat} {k : Nat × Nat × Nat × Nat × Nat} (hk : akO t = some k) (h : okR t j) : (t, j) ∈ OB ∧ 64 ≤ t ∧ raB j k = true := by
  have h64 := (akO_ge hk).1
  rcases h with h | ⟨q, -⟩
  · refine ⟨h, h64, ?_⟩
    have := List.all_eq_true.mp ra_ok _ h
    rw [hk] at this
    simp only [Bool.or_eq_true, Nat.blt_eq] at this
    rcases this with q | q
    · exact q
    · exact absurd q (by show ¬ t < 64; omega)
  · omega
