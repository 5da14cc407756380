/-! What the interpreter's frames are on the machine; the pure instructions are right. -/
def iTv (ad : Nat → Nat → Nat) (rho : Nat → Int32) : iV → Value
  | Sum.inl x => .int x
  | Sum.inr (Sum.inl x) => .long x
  | Sum.inr (Sum.inr (Sum.inl none)) => .null
  | Sum.inr (Sum.inr (Sum.inl (some q))) => .ref (ad q.1 q.2)
  | Sum.inr (Sum.inr (Sum.inr k)) => .int (rho k)
theorem iTv_cat {ad : Nat → Nat → Nat} {rho : Nat → Int32} {w : iV} (h : (iTv ad rho w).category = 2) : iLong (some w) = true := by
  rcases w with x | x | (_ | q) | k
  · simp [iTv, Value.category] at h
  · rfl
  · simp [iTv, Value.category] at h
  · simp [iTv, Value.category] at h
  · simp [iTv, Value.category] at h
theorem iTv_cat1 {ad : Nat → Nat → Nat} {rho : Nat → Int32} {w : iV} (h : iCat1 w = true) : (iTv ad rho w).category = 1 := by
  rcases w with x | x | (_ | q) | k
  · rfl
  · simp [iCat1] at h
  · rfl
  · rfl
  · rfl
def iFr (tv : iV → Value) (ls : iL) (lsM : Array Slot) (nL : Nat) : Prop := lsM.size = nL ∧ lv_wf lsM ∧ ls.length = nL ∧ ∀ (i : Nat) (v : iV), iGet ls i = some v → lsM[i]? = some (.val (tv v))
def iLv (tv : iV → Value) (ls : iL) : List (Nat × Value) := (List.range ls.length).filterMap (fun i => (iGet ls i).map (fun v => (i, tv v)))
theorem iGet_lt {ls : iL} {i : Nat} {v : iV} (h : iGet ls i = some v) : i < ls.length := by
  induction ls generalizing i with
  | nil => cases h
  | cons a r ih =>
    cases i with
    | zero => simp
    | succ n =>
      have := ih (i := n) h
      simp only [List.length_cons]
      omega
theorem iLv_mem {tv : iV → Value} {ls : iL} {i : Nat} {v : iV} (h : iGet ls i = some v) : (i, tv v) ∈ iLv tv ls :=
  List.mem_filterMap.mpr ⟨i, List.mem_range.mpr (iGet_lt h), by rw [h]; rfl⟩
theorem iFr.has {tv : iV → Value} {ls : iL} {lsM : Array Slot} {nL : Nat} (h : iFr tv ls lsM nL) : lv_has lsM nL (iLv tv ls) := by
  refine ⟨h.1, h.2.1, fun q hq => ?_⟩
  obtain ⟨i, -, he⟩ := List.mem_filterMap.mp hq
  cases hg : iGet ls i with
  | none => rw [hg] at he; cases he
  | some v =>
    rw [hg] at he
    cases he
    exact h.2.2.2 i v hg
theorem iPut_len {ls ls' : iL} {i : Nat} {v : Option iV} (h : iPut ls i v = some ls') : ls'.length = ls.length ∧ i < ls.length := by
  induction ls generalizing i ls' with
  | nil => cases h
  | cons a r ih =>
    cases i with
    | zero =>
      cases h
      simp
    | succ n =>
      unfold iPut at h
      split at h
      · cases h
      · rename_i r' hr
        cases h
        have := ih hr
        simp only [List.length_cons]
        omega
theorem iPut_get {ls ls' : iL} {i : Nat} {v : Option iV} (h : iPut ls i v = some ls') (j : Nat) : iGet ls' j = if j = i then v else iGet ls j := by
  induction ls generalizing i ls' j with
  | nil => cases h
  | cons a r ih =>
    cases i with
    | zero =>
      cases h
      cases j with
      | zero => simp [iGet]
      | succ k => simp [iGet]
    | succ n =>
      unfold iPut at h
      split at h
      · cases h
      · rename_i r' hr
        cases h
        cases j with
        | zero => simp [iGet]
        | succ k =>
          have := ih hr k
          simp only [iGet, this, Nat.add_right_cancel_iff]
theorem iClr_some {a : Option iV} {w : iV} (h : iClr a = some w) : a = some w ∧ iLong (some w) = false := by
  rcases a with _ | (x | x | q | k)
  · cases h
  · cases h; exact ⟨rfl, rfl⟩
  · cases h
  · cases h; exact ⟨rfl, rfl⟩
  · cases h; exact ⟨rfl, rfl⟩
theorem iSt1_get {ls ls' : iL} {k : Nat} {v : iV} (h : iSt1 ls k v = some ls') : ls'.length = ls.length ∧ k < ls.length ∧ ∀ (i : Nat) (w : iV), iGet ls' i = some w → (i = k ∧ w = v) ∨ (i ≠ k ∧ iGet ls i = some w ∧ (i + 1 = k → iLong (some w) = false)) := by
  unfold iSt1 at h
  split at h
  · obtain ⟨l1, l2⟩ := iPut_len h
    refine ⟨l1, l2, fun i w hw => ?_⟩
    rw [iPut_get h i] at hw
    by_cases hi : i = 0
    · rw [if_pos hi] at hw
      cases hw
      exact Or.inl ⟨hi, rfl⟩
    · rw [if_neg hi] at hw
      exact Or.inr ⟨hi, hw, fun q => by omega⟩
  · rename_i n
    split at h
    · cases h
    · rename_i l1 h1
      obtain ⟨a1, a2⟩ := iPut_len h1
      obtain ⟨b1, b2⟩ := iPut_len h
      refine ⟨b1.trans a1, a2, fun i w hw => ?_⟩
      rw [iPut_get h i] at hw
      by_cases hi : i = n
      · rw [if_pos hi] at hw
        obtain ⟨g1, g2⟩ := iClr_some hw
        exact Or.inr ⟨by omega, by rw [hi]; exact g1, fun _ => g2⟩
      · rw [if_neg hi, iPut_get h1 i] at hw
        by_cases hi2 : i = n + 1
        · rw [if_pos hi2] at hw
          cases hw
          exact Or.inl ⟨hi2, rfl⟩
        · rw [if_neg hi2] at hw
          exact Or.inr ⟨hi2, hw, fun q => by omega⟩
theorem iFr.st1 {ad : Nat → Nat → Nat} {rho : Nat → Int32} {ls ls' : iL} {lsM : Array Slot} {nL k : Nat} {v : iV} (hF : iFr (iTv ad rho) ls lsM nL) (h : iSt1 ls k v = some ls') :
    k < nL ∧ ∀ lsM' : Array Slot, lv_has lsM' nL ((k, iTv ad rho v) :: (iLv (iTv ad rho) ls).filter (fun q => !(q.1 == k) && !(q.1 + 1 == k && q.2.category == 2))) → iFr (iTv ad rho) ls' lsM' nL := by
  obtain ⟨l1, l2, hg⟩ := iSt1_get h
  refine ⟨by rw [← hF.2.2.1]; exact l2, fun lsM' hl => ⟨hl.1, hl.2.1, l1.trans hF.2.2.1, fun i w hw => ?_⟩⟩
  rcases hg i w hw with ⟨rfl, rfl⟩ | ⟨hik, hw, hlong⟩
  · exact hl.2.2 (i, iTv ad rho w) List.mem_cons_self
  · refine hl.2.2 (i, iTv ad rho w) (List.mem_cons_of_mem _ (List.mem_filter.mpr ⟨iLv_mem hw, ?_⟩))
    simp only [Bool.and_eq_true, Bool.not_eq_true', beq_eq_false_iff_ne, ne_eq, Bool.and_eq_false_iff]
    refine ⟨hik, ?_⟩
    by_cases h2 : i + 1 = k
    · exact Or.inr (fun q => by have e1 := hlong h2; rw [iTv_cat q] at e1; cases e1)
    · exact Or.inl h2
theorem iFr.st2 {ad : Nat → Nat → Nat} {rho : Nat → Int32} {ls ls' : iL} {lsM : Array Slot} {nL k : Nat} {v : iV} (hF : iFr (iTv ad rho) ls lsM nL) (h : iSt2 ls k v = some ls') :
    k + 1 < nL ∧ ∀ lsM' : Array Slot, lv_has lsM' nL ((k, iTv ad rho v) :: (iLv (iTv ad rho) ls).filter (fun q => !(q.1 == k) && (!(q.1 == k + 1) && !(q.1 + 1 == k && q.2.category == 2)))) → iFr (iTv ad rho) ls' lsM' nL := by
  unfold iSt2 at h
  split at h
  · cases h
  · rename_i l1 h1
    obtain ⟨a1, a2, hg⟩ := iSt1_get h1
    obtain ⟨b1, b2⟩ := iPut_len h
    refine ⟨by rw [← hF.2.2.1, ← a1]; exact b2, fun lsM' hl => ⟨hl.1, hl.2.1, b1.trans (a1.trans hF.2.2.1), fun i w hw => ?_⟩⟩
    rw [iPut_get h i] at hw
    by_cases hik : i = k + 1
    · rw [if_pos hik] at hw
      cases hw
    · rw [if_neg hik] at hw
      rcases hg i w hw with ⟨rfl, rfl⟩ | ⟨hi2, hw, hlong⟩
      · exact hl.2.2 (i, iTv ad rho w) List.mem_cons_self
      · refine hl.2.2 (i, iTv ad rho w) (List.mem_cons_of_mem _ (List.mem_filter.mpr ⟨iLv_mem hw, ?_⟩))
        simp only [Bool.and_eq_true, Bool.not_eq_true', beq_eq_false_iff_ne, ne_eq, Bool.and_eq_false_iff]
        refine ⟨hi2, hik, ?_⟩
        by_cases h2 : i + 1 = k
        · exact Or.inr (fun q => by have e1 := hlong h2; rw [iTv_cat q] at e1; cases e1)
        · exact Or.inl h2
theorem iTgOK_one {pc : Nat} {o : Int} {t : Nat} (h : iTgOK pc [o] [t] = true) : (pc : Int) + o = (t : Int) := by
  simp only [iTgOK, Bool.and_true, decide_eq_true_eq] at h
  exact h
theorem iPick_out (n : Nat) : ∀ (lo x : Int) (ts : List Nat) (d : Nat), (x < lo ∨ lo + (n : Int) ≤ x) → iPick (iKeys lo n) ts d x = d := by
  induction n with
  | zero => intro lo x ts d _; rfl
  | succ n ih =>
    intro lo x ts d h
    cases ts with
    | nil => rfl
    | cons t ts =>
      have hne : ¬ x = lo := by omega
      simp only [iKeys, iPick, hne, decide_false]
      exact ih (lo + 1) x ts d (by omega)
theorem iPick_in (pc : Nat) (n : Nat) : ∀ (lo x : Int) (offs : List Int) (ts : List Nat) (d : Nat), offs.length = n → iTgOK pc offs ts = true → lo ≤ x → x < lo + (n : Int) →
    ∃ off, offs[(x - lo).toNat]? = some off ∧ (pc : Int) + off = (iPick (iKeys lo n) ts d x : Int) := by
  induction n with
  | zero => intro lo x offs ts d _ _ h1 h2; omega
  | succ n ih =>
    intro lo x offs ts d hl ht h1 h2
    cases offs with
    | nil => simp at hl
    | cons o os =>
      cases ts with
      | nil => simp [iTgOK] at ht
      | cons t ts =>
        simp only [iTgOK, Bool.and_eq_true, decide_eq_true_eq] at ht
        by_cases hx : x = lo
        · refine ⟨o, ?_, ?_⟩
          · subst hx; simp
          · simp only [iKeys, iPick, hx, decide_true]
            exact ht.1
        · obtain ⟨off, e1, e2⟩ := ih (lo + 1) x os ts d (by simpa using hl) ht.2 (by omega) (by omega)
          refine ⟨off, ?_, ?_⟩
          · have e3 : (x - lo).toNat = (x - (lo + 1)).toNat + 1 := by omega
            rw [e3, List.getElem?_cons_succ]
            exact e1
          · simp only [iKeys, iPick, hx, decide_false]
            exact e2
section iSnd
variable {p : Program} {l : Launch} {e : Env} {R : Room} {s : State} {m : MethodId} {args : Array Value} {below : List Frame} {meth : Method} {c : Code} {H : Heap} {locs : List Loc} {cells slots : Nat} {Q : State → Prop}
variable {cc : ByteArray} {ad : Nat → Nat → Nat} {rho : Nat → Int32} {nL : Nat} {lsM : Array Slot}
set_option maxHeartbeats 4000000 in
theorem snd_stp (hx : p.tables.exec = Jvm.exec) (hb : c.code = cc) {i : iI} {n : Nat} {ts : iX} {k k' : iC} (h : iStp i ts k = some k') (hd : decode cc k.1 = .ok (i, n)) (hok : iOK (k.1, i, n, ts) = true)
    (hk1 : ∀ x, i = .ldc x → ∃ own, s.vm.findClass own = some m.cls ∧ (Jvm.Cond.constant own x ts.2).before args s = true) (hk2 : ∀ x, i = .ldc2_w x → ∃ own, s.vm.findClass own = some m.cls ∧ (Jvm.Cond.constantLong own x ts.2.toInt64).before args s = true) (hF : iFr (iTv ad rho) k.2.1 lsM nL)
    (kk : ∀ lsM' : Array Slot, iFr (iTv ad rho) k'.2.1 lsM' nL → W p l e R s m args below meth c H locs cells slots Q (F0 m k'.1 lsM' (k'.2.2.map (iTv ad rho)))) :
    W p l e R s m args below meth c H locs cells slots Q (F0 m k.1 lsM (k.2.2.map (iTv ad rho))) := by
  obtain ⟨pc, ls, st⟩ := k
  dsimp only at hd hok hF ⊢
  simp only [iOK, Bool.and_eq_true, Bool.or_eq_true, decide_eq_true_eq] at hok
  obtain ⟨hn, ⟨ht, hsw⟩, hnum⟩ := hok
  obtain ⟨ts, num⟩ := ts
  dsimp only at ht hnum hk1 hk2
  unfold iStp at h
  split at h
  -- iconst, bipush, sipush, lconst
  · obtain rfl : n = 1 := hn.resolve_left (fun q => by cases q)
    cases h
    exact lv_iconst hx hb hd (of_decide_eq_true hnum).symm (kk _ hF)
  · obtain rfl : n = 2 := hn.resolve_left (fun q => by cases q)
    cases h
    exact lv_bipush hx hb hd (of_decide_eq_true hnum).symm (kk _ hF)
  · obtain rfl : n = 3 := hn.resolve_left (fun q => by cases q)
    cases h
    exact lv_sipush hx hb hd (of_decide_eq_true hnum).symm (kk _ hF)
  · obtain rfl : n = 1 := hn.resolve_left (fun q => by cases q)
    cases h
    exact lv_lconst hx hb hd rfl (kk _ hF)
  · obtain rfl : n = 2 := hn.resolve_left (fun q => by cases q)
    cases h
    obtain ⟨own, g1, g2⟩ := hk1 _ rfl
    exact lv_ldc hx hb g1 g2 hd (kk _ hF)
  · obtain rfl : n = 3 := hn.resolve_left (fun q => by cases q)
    cases h
    obtain ⟨own, g1, g2⟩ := hk2 _ rfl
    exact lv_ldc2 hx hb g1 g2 hd (kk _ hF)
  -- iload, iload_n, lload, lload_n, aload, aload_n
  · obtain rfl : n = 2 := hn.resolve_left (fun q => by cases q)
    unfold iLdI at h
    dsimp only at h
    split at h
    · rename_i hg
      cases h
      exact lv_iload hx hb hd (hF.2.2.2 _ _ hg) (kk _ hF)
    · rename_i hg
      cases h
      exact lv_iload hx hb hd (hF.2.2.2 _ _ hg) (kk _ hF)
    · cases h
  · obtain rfl : n = 1 := hn.resolve_left (fun q => by cases q)
    unfold iLdI at h
    dsimp only at h
    split at h
    · rename_i hg
      cases h
      exact lv_iload_n hx hb hd rfl (hF.2.2.2 _ _ hg) (kk _ hF)
    · rename_i hg
      cases h
      exact lv_iload_n hx hb hd rfl (hF.2.2.2 _ _ hg) (kk _ hF)
    · cases h
  · obtain rfl : n = 2 := hn.resolve_left (fun q => by cases q)
    unfold iLdL at h
    dsimp only at h
    split at h
    · rename_i hg
      cases h
      exact lv_lload hx hb hd (hF.2.2.2 _ _ hg) (kk _ hF)
    · cases h
  · obtain rfl : n = 1 := hn.resolve_left (fun q => by cases q)
    unfold iLdL at h
    dsimp only at h
    split at h
    · rename_i hg
      cases h
      exact lv_lload_n hx hb hd rfl (hF.2.2.2 _ _ hg) (kk _ hF)
    · cases h
  · obtain rfl : n = 2 := hn.resolve_left (fun q => by cases q)
    unfold iLdA at h
    dsimp only at h
    split at h
    · rename_i hg
      cases h
      exact lv_aload hx hb hd (hF.2.2.2 _ _ hg) (kk _ hF)
    · cases h
  · obtain rfl : n = 1 := hn.resolve_left (fun q => by cases q)
    unfold iLdA at h
    dsimp only at h
    split at h
    · rename_i hg
      cases h
      exact lv_aload_n hx hb hd rfl (hF.2.2.2 _ _ hg) (kk _ hF)
    · cases h
  -- istore, istore_n, lstore, lstore_n, astore, astore_n
  · obtain rfl : n = 2 := hn.resolve_left (fun q => by cases q)
    unfold iStI at h
    dsimp only at h
    split at h
    · split at h
      · cases h
      · rename_i hs
        cases h
        obtain ⟨g1, g2⟩ := hF.st1 hs
        exact lv_istore hx hb hd hF.has g1 rfl (fun l' hl' => kk l' (g2 l' hl'))
    · cases h
  · obtain rfl : n = 1 := hn.resolve_left (fun q => by cases q)
    unfold iStI at h
    dsimp only at h
    split at h
    · split at h
      · cases h
      · rename_i hs
        cases h
        obtain ⟨g1, g2⟩ := hF.st1 hs
        exact lv_istore_n hx hb hd rfl hF.has g1 rfl (fun l' hl' => kk l' (g2 l' hl'))
    · cases h
  · obtain rfl : n = 2 := hn.resolve_left (fun q => by cases q)
    unfold iStL at h
    dsimp only at h
    split at h
    · split at h
      · cases h
      · rename_i hs
        cases h
        obtain ⟨g1, g2⟩ := hF.st2 hs
        exact lv_lstore hx hb hd hF.has g1 rfl (fun l' hl' => kk l' (g2 l' hl'))
    · cases h
  · obtain rfl : n = 1 := hn.resolve_left (fun q => by cases q)
    unfold iStL at h
    dsimp only at h
    split at h
    · split at h
      · cases h
      · rename_i hs
        cases h
        obtain ⟨g1, g2⟩ := hF.st2 hs
        exact lv_lstore_n hx hb hd rfl hF.has g1 rfl (fun l' hl' => kk l' (g2 l' hl'))
    · cases h
  · obtain rfl : n = 2 := hn.resolve_left (fun q => by cases q)
    unfold iStA at h
    dsimp only at h
    split at h
    · split at h
      · cases h
      · rename_i hs
        cases h
        obtain ⟨g1, g2⟩ := hF.st1 hs
        exact lv_astore hx hb hd hF.has g1 rfl (fun l' hl' => kk l' (g2 l' hl'))
    · cases h
  · obtain rfl : n = 1 := hn.resolve_left (fun q => by cases q)
    unfold iStA at h
    dsimp only at h
    split at h
    · split at h
      · cases h
      · rename_i hs
        cases h
        obtain ⟨g1, g2⟩ := hF.st1 hs
        exact lv_astore_n hx hb hd rfl hF.has g1 rfl (fun l' hl' => kk l' (g2 l' hl'))
    · cases h
  -- iinc
  · obtain rfl : n = 3 := hn.resolve_left (fun q => by cases q)
    unfold iInc at h
    dsimp only at h
    split at h
    · rename_i hg
      split at h
      · cases h
      · rename_i hs
        cases h
        obtain ⟨g1, g2⟩ := hF.st1 hs
        obtain ⟨j, hj⟩ := List.getElem?_of_mem (iLv_mem (tv := iTv ad rho) hg)
        exact lv_iinc hx hb hd hF.has hj (by rw [of_decide_eq_true hnum]) g1 rfl (fun l' hl' => kk l' (g2 l' hl'))
    · cases h
  · obtain rfl : n = 1 := hn.resolve_left (fun q => by cases q)
    unfold iBin at h
    dsimp only at h
    split at h
    · cases h
      exact lv_iadd hx hb hd (kk _ hF)
    · cases h
  · obtain rfl : n = 1 := hn.resolve_left (fun q => by cases q)
    unfold iBin at h
    dsimp only at h
    split at h
    · cases h
      exact lv_isub hx hb hd (kk _ hF)
    · cases h
  · obtain rfl : n = 1 := hn.resolve_left (fun q => by cases q)
    unfold iBin at h
    dsimp only at h
    split at h
    · cases h
      exact lv_imul hx hb hd (kk _ hF)
    · cases h
  · obtain rfl : n = 1 := hn.resolve_left (fun q => by cases q)
    unfold iBin at h
    dsimp only at h
    split at h
    · cases h
      exact lv_iand hx hb hd (kk _ hF)
    · cases h
  · obtain rfl : n = 1 := hn.resolve_left (fun q => by cases q)
    unfold iBin at h
    dsimp only at h
    split at h
    · cases h
      exact lv_ior hx hb hd (kk _ hF)
    · cases h
  · obtain rfl : n = 1 := hn.resolve_left (fun q => by cases q)
    unfold iBin at h
    dsimp only at h
    split at h
    · cases h
      exact lv_ixor hx hb hd (kk _ hF)
    · cases h
  · obtain rfl : n = 1 := hn.resolve_left (fun q => by cases q)
    unfold iBin at h
    dsimp only at h
    split at h
    · cases h
      exact lv_ishl hx hb hd (kk _ hF)
    · cases h
  · obtain rfl : n = 1 := hn.resolve_left (fun q => by cases q)
    unfold iBin at h
    dsimp only at h
    split at h
    · cases h
      exact lv_ishr hx hb hd (kk _ hF)
    · cases h
  · obtain rfl : n = 1 := hn.resolve_left (fun q => by cases q)
    unfold iBin at h
    dsimp only at h
    split at h
    · cases h
      exact lv_iushr hx hb hd rfl (kk _ hF)
    · cases h
  · obtain rfl : n = 1 := hn.resolve_left (fun q => by cases q)
    unfold iDiv at h
    dsimp only at h
    split at h
    · split at h
      · cases h
      · rename_i hne
        cases h
        exact lv_idiv hx hb hd (of_decide_eq_false hne) (kk _ hF)
    · cases h
  · obtain rfl : n = 1 := hn.resolve_left (fun q => by cases q)
    unfold iDiv at h
    dsimp only at h
    split at h
    · split at h
      · cases h
      · rename_i hne
        cases h
        exact lv_irem hx hb hd (of_decide_eq_false hne) (kk _ hF)
    · cases h
  · obtain rfl : n = 1 := hn.resolve_left (fun q => by cases q)
    unfold iNeg at h
    dsimp only at h
    split at h
    · cases h
      exact lv_ineg hx hb hd (kk _ hF)
    · cases h
  · obtain rfl : n = 1 := hn.resolve_left (fun q => by cases q)
    unfold iI2L at h
    dsimp only at h
    split at h
    · cases h
      exact lv_i2l hx hb hd rfl (kk _ hF)
    · cases h
  · obtain rfl : n = 1 := hn.resolve_left (fun q => by cases q)
    unfold iLSub at h
    dsimp only at h
    split at h
    · cases h
      exact lv_lsub hx hb hd (kk _ hF)
    · cases h
  · obtain rfl : n = 1 := hn.resolve_left (fun q => by cases q)
    unfold iLCmp at h
    dsimp only at h
    split at h
    · cases h
      exact W.lcmp hx hb hd (kk _ hF)
    · cases h
  -- dup, pop, dup_x1, dup_x2, dup2
  · obtain rfl : n = 1 := hn.resolve_left (fun q => by cases q)
    unfold iDup at h
    dsimp only at h
    split at h
    · split at h
      · rename_i hc
        cases h
        exact lv_dup hx hb hd (iTv_cat1 hc) (kk _ hF)
      · cases h
    · cases h
  · obtain rfl : n = 1 := hn.resolve_left (fun q => by cases q)
    unfold iPop at h
    dsimp only at h
    split at h
    · split at h
      · rename_i hc
        cases h
        exact lv_pop hx hb hd (iTv_cat1 hc) (kk _ hF)
      · cases h
    · cases h
  · obtain rfl : n = 1 := hn.resolve_left (fun q => by cases q)
    unfold iDupX1 at h
    dsimp only at h
    split at h
    · split at h
      · rename_i hc
        cases h
        rw [Bool.and_eq_true] at hc
        exact lv_dup_x1 hx hb hd (iTv_cat1 hc.1) (iTv_cat1 hc.2) (kk _ hF)
      · cases h
    · cases h
  · obtain rfl : n = 1 := hn.resolve_left (fun q => by cases q)
    unfold iDupX2 at h
    dsimp only at h
    split at h
    · split at h
      · rename_i hc
        cases h
        rw [Bool.and_eq_true, Bool.and_eq_true] at hc
        exact lv_dup_x2 hx hb hd (iTv_cat1 hc.1) (iTv_cat1 hc.2.1) (iTv_cat1 hc.2.2) (kk _ hF)
      · cases h
    · cases h
  · obtain rfl : n = 1 := hn.resolve_left (fun q => by cases q)
    unfold iDup2 at h
    dsimp only at h
    split at h
    · split at h
      · rename_i hc
        cases h
        rw [Bool.and_eq_true] at hc
        exact lv_dup2_11 hx hb hd (iTv_cat1 hc.1) (iTv_cat1 hc.2) (kk _ hF)
      · cases h
    · cases h
  -- branches
  · rename_i kc off
    obtain rfl : n = 3 := hn.resolve_left (fun q => by cases q)
    unfold iBr2 at h
    dsimp only at h
    split at h
    · rename_i t r b a r2
      have ht' := iTgOK_one ht
      cases kc with
      | eq => exact lv_icmp_eq hx hb hd ht' (fun q => by simp only [iCmp, q, decide_true] at h; cases h; exact kk _ hF) (fun q => by simp only [iCmp, q, decide_false] at h; cases h; exact kk _ hF)
      | ne => exact lv_icmp_ne hx hb hd ht' (fun q => by have q' : decide (a = b) = false := decide_eq_false q; simp only [iCmp, q', Bool.not_false] at h; cases h; exact kk _ hF) (fun q => by have q' : decide (a = b) = true := decide_eq_true q; simp only [iCmp, q', Bool.not_true] at h; cases h; exact kk _ hF)
      | lt => exact lv_icmp_lt hx hb hd ht' (fun q => by simp only [iCmp, q, decide_true] at h; cases h; exact kk _ hF) (fun q => by simp only [iCmp, q, decide_false] at h; cases h; exact kk _ hF)
      | ge => exact lv_icmp_ge hx hb hd ht' (fun q => by have q' : decide (a < b) = false := decide_eq_false (Int32.not_lt.mpr q); simp only [iCmp, q', Bool.not_false] at h; cases h; exact kk _ hF) (fun q => by have q' : decide (a < b) = true := decide_eq_true (Int32.not_le.mp q); simp only [iCmp, q', Bool.not_true] at h; cases h; exact kk _ hF)
      | gt => exact lv_icmp_gt hx hb hd ht' (fun q => by simp only [iCmp, q, decide_true] at h; cases h; exact kk _ hF) (fun q => by simp only [iCmp, q, decide_false] at h; cases h; exact kk _ hF)
      | le => exact lv_icmp_le hx hb hd ht' (fun q => by have q' : decide (b < a) = false := decide_eq_false (Int32.not_lt.mpr q); simp only [iCmp, q', Bool.not_false] at h; cases h; exact kk _ hF) (fun q => by have q' : decide (b < a) = true := decide_eq_true (Int32.not_le.mp q); simp only [iCmp, q', Bool.not_true] at h; cases h; exact kk _ hF)
    · cases h
  · rename_i kc off
    obtain rfl : n = 3 := hn.resolve_left (fun q => by cases q)
    unfold iBr1 at h
    dsimp only at h
    split at h
    · rename_i t r a r2
      have ht' := iTgOK_one ht
      cases kc with
      | eq => exact lv_if_eq hx hb hd ht' (fun q => by simp only [iCmp, q, decide_true] at h; cases h; exact kk _ hF) (fun q => by simp only [iCmp, q, decide_false] at h; cases h; exact kk _ hF)
      | ne => exact lv_if_ne hx hb hd ht' (fun q => by have q' : decide (a = 0) = false := decide_eq_false q; simp only [iCmp, q', Bool.not_false] at h; cases h; exact kk _ hF) (fun q => by have q' : decide (a = 0) = true := decide_eq_true q; simp only [iCmp, q', Bool.not_true] at h; cases h; exact kk _ hF)
      | lt => exact lv_if_lt hx hb hd ht' (fun q => by simp only [iCmp, q, decide_true] at h; cases h; exact kk _ hF) (fun q => by simp only [iCmp, q, decide_false] at h; cases h; exact kk _ hF)
      | ge => exact lv_if_ge hx hb hd ht' (fun q => by have q' : decide (a < 0) = false := decide_eq_false (Int32.not_lt.mpr q); simp only [iCmp, q', Bool.not_false] at h; cases h; exact kk _ hF) (fun q => by have q' : decide (a < 0) = true := decide_eq_true (Int32.not_le.mp q); simp only [iCmp, q', Bool.not_true] at h; cases h; exact kk _ hF)
      | gt => exact lv_if_gt hx hb hd ht' (fun q => by simp only [iCmp, q, decide_true] at h; cases h; exact kk _ hF) (fun q => by simp only [iCmp, q, decide_false] at h; cases h; exact kk _ hF)
      | le => exact lv_if_le hx hb hd ht' (fun q => by have q' : decide (0 < a) = false := decide_eq_false (Int32.not_lt.mpr q); simp only [iCmp, q', Bool.not_false] at h; cases h; exact kk _ hF) (fun q => by have q' : decide (0 < a) = true := decide_eq_true (Int32.not_le.mp q); simp only [iCmp, q', Bool.not_true] at h; cases h; exact kk _ hF)
    · cases h
  · obtain rfl : n = 3 := hn.resolve_left (fun q => by cases q)
    unfold iGoto at h
    dsimp only at h
    split at h
    · cases h
      exact lv_goto hx hb hd (iTgOK_one ht) (kk _ hF)
    · cases h
  -- tableswitch
  · rename_i dflt lo hi offs
    unfold iSw at h
    dsimp only at h
    split at h
    · rename_i d tr x r
      cases h
      simp only [iSwOK, decide_eq_true_eq] at hsw
      have ht2 : (pc : Int) + dflt = (d : Int) ∧ iTgOK pc offs.toList tr = true := by
        simp only [iOffs, iTgOK, Bool.and_eq_true, decide_eq_true_eq] at ht
        exact ht
      by_cases hout : x.toInt < lo ∨ hi < x.toInt
      · have e1 := iPick_out offs.size lo x.toInt tr d (by omega)
        dsimp only at kk
        rw [e1] at kk
        exact lv_tableOut hx hb hd hout ht2.1 (kk _ hF)
      · obtain ⟨off, e1, e2⟩ := iPick_in pc offs.size lo x.toInt offs.toList tr d (by simp) ht2.2 (by omega) (by omega)
        exact lv_tableIn hx hb hd (fun q => hout (Or.inl q)) (fun q => hout (Or.inr q)) (by rw [← Array.getElem?_toList]; exact e1) e2 (kk _ hF)
    · cases h
  · cases h
end iSnd
