/-! All heap instructions of the static heap at once. -/
section sHop
variable {p : Program} {l : Launch} {e : Env} {R : Room} {s : State} {m : MethodId} {args : Array Value} {below : List Frame} {meth : Method} {c : Code} {Q : State → Prop}
variable {cc : ByteArray} {D : va_G} {ad : Nat → Nat → Nat} {ca : Nat → ClassId} {rho : Nat → Int32} {A : Nat → Prop} {Ts : List Cond} {own nL bs cells slots : Nat} {scr : Nat × (Nat → Int32)}
def stS (D : va_G) (ad : Nat → Nat → Nat) (ca : Nat → ClassId) (A : Nat → Prop) (s : State) (S : SS) (H : Heap) (locs : List Loc) : Prop := va_P D vwC (wS ad ca S) H ∧ va_D A (wS ad ca S) ∧ va_S A s.heap H locs
set_option maxHeartbeats 4000000 in
theorem so_hop (hx : p.tables.exec = Jvm.exec) (hb : c.code = cc) (hts : ∀ w ∈ Ts, w.before args s = true) (hTs : ∀ w ∈ tbG, w ∈ Ts) (hown : s.vm.findClass (cn own) = some m.cls) (hK : va_K D vwC (tysS ca) s)
    (hX : va_X bs scr.1 scr.2 s s.heap) (hbl : bs < s.heap.size) (hbA : ¬ A bs) (had : ad 63 0 = bs)
    (i : iI) (n : Nat) (k : iC) (st' : List iV) (S S' : SS) (h : hopS scr own i k.2.2 S = some (st', S')) (hd : decode cc k.1 = .ok (i, n)) (hn : iIsSw i = true ∨ n = iLen i) (hv : vkS k) :
    vkS (k.1 + iLen i, k.2.1, st') ∧ ∀ (H : Heap) (locs : List Loc) (lsM : Array Slot), stS D ad ca A s S H locs →
      (∀ (H1 : Heap) (locs1 : List Loc), stS D ad ca A s S' H1 locs1 → W p l e R s m args below meth c H1 locs1 cells slots Q (F0 m (k.1 + iLen i) lsM (st'.map (iTv ad rho)))) → W p l e R s m args below meth c H locs cells slots Q (F0 m k.1 lsM (k.2.2.map (iTv ad rho))) := by
  obtain ⟨pc, ls, st⟩ := k
  dsimp only at h hd ⊢
  have hv0 := hv
  unfold hopS at h
  split at h
  · rename_i kx
    obtain rfl : n = 3 := hn.resolve_left (fun q => by cases q)
    unfold hGet at h
    split at h
    · rename_i t j r
      unfold hG1 at h
      split at h
      · rename_i cls fno kd x a b hf
        split at h
        · rename_i hbq
          obtain rfl : t = cls := Nat.eq_of_beq_eq_true hbq
          have ho := okR_get hf (vk_head hv t j rfl)
          have hrf := okR_ref hf ho
          have hv1 : vkS (pc, ls, r) := vk_tail hv
          rcases kd with _ | _ | _ | _ | kd
          · have h : some (vI (sGet S x j 0) :: r, S) = some (st', S') := h
            cases h
            exact ⟨vk_cons hv1 (fun _ _ q => by cases q), fun H locs lsM hST kk => so_get hx hb hts hTs hown hK hST.1 ho hf hd (kk H locs hST)⟩
          · have h : some (vI (nz (sGet S x j 0)) :: r, S) = some (st', S') := h
            cases h
            exact ⟨vk_cons hv1 (fun _ _ q => by cases q), fun H locs lsM hST kk => so_get hx hb hts hTs hown hK hST.1 ho hf hd (kk H locs hST)⟩
          · have h : some (vR x (j + b) :: r, S) = some (st', S') := h
            cases h
            exact ⟨vk_cons hv1 (fun t i q => by cases q; exact Or.inl (of_decide_eq_true hrf)), fun H locs lsM hST kk => so_get hx hb hts hTs hown hK hST.1 ho hf hd (kk H locs hST)⟩
          · have h : some (vI (sGet S x j 0) :: r, S) = some (st', S') := h
            cases h
            exact ⟨vk_cons hv1 (fun _ _ q => by cases q), fun H locs lsM hST kk => so_get hx hb hts hTs hown hK hST.1 ho hf hd (kk H locs hST)⟩
          · have h : some (vR x (a * j + b) :: r, S) = some (st', S') := h
            cases h
            exact ⟨vk_cons hv1 (fun t i q => by cases q; exact Or.inl (of_decide_eq_true hrf)), fun H locs lsM hST kk => so_get hx hb hts hTs hown hK hST.1 ho hf hd (kk H locs hST)⟩
        · cases h
      · cases h
    · cases h
  · rename_i kx
    obtain rfl : n = 3 := hn.resolve_left (fun q => by cases q)
    unfold hPut at h
    split at h
    · rename_i v t j r
      unfold hP1 at h
      split at h
      · rename_i cls fno kd x a b hf
        split at h
        · rename_i hbq
          obtain rfl : t = cls := Nat.eq_of_beq_eq_true hbq
          have ho := okR_get hf (vk_head (vk_tail (pc' := pc) hv) t j rfl)
          have hv1 : vkS (pc, ls, r) := vk_tail (vk_tail (pc' := pc) hv)
          rcases kd with _ | _ | kd
          · have h : some (r, sPut S x j 0 v) = some (st', S') := h
            cases h
            exact ⟨hv1, fun H locs lsM hST kk => so_put hx hb hts hTs hown hK hST.1 hST.2.1 hST.2.2 ho hf (Or.inl rfl) hd (fun H1 locs1 q1 q2 q3 => kk H1 locs1 ⟨q1, q2, q3⟩)⟩
          · have h : (match iIsB v with | true => some (r, sPut S x j 0 v) | false => none) = some (st', S') := h
            split at h
            · rename_i hvb
              cases h
              exact ⟨hv1, fun H locs lsM hST kk => so_put hx hb hts hTs hown hK hST.1 hST.2.1 hST.2.2 ho hf (Or.inr ⟨rfl, hvb⟩) hd (fun H1 locs1 q1 q2 q3 => kk H1 locs1 ⟨q1, q2, q3⟩)⟩
            · cases h
          · cases h
        · cases h
      · cases h
    · cases h
  · obtain rfl : n = 1 := hn.resolve_left (fun q => by cases q)
    unfold hIald at h
    split at h
    · rename_i i t j r
      have hv1 : vkS (pc, ls, r) := vk_tail (vk_tail (pc' := pc) hv)
      have hr : okR t j := vk_head (vk_tail (pc' := pc) hv) t j rfl
      split at h
      · rename_i hbq
        obtain rfl : t = 63 := Nat.eq_of_beq_eq_true hbq
        unfold hIscr at h
        split at h
        · rename_i hg
          cases h
          have hj : ad 63 j = bs := by
            rcases hr with hr | ⟨-, rfl⟩
            · rcases OB_kind hr with q | ⟨q, -⟩ <;> omega
            · exact had
          refine ⟨vk_cons hv1 (fun _ _ q => by cases q), fun H locs lsM hST kk => ?_⟩
          show W p l e R s m args below meth c H locs cells slots Q (F0 m pc lsM (.int i :: .ref (ad 63 j) :: r.map (iTv ad rho)))
          rw [hj]
          exact va_sld hx hb hX hbl hbA hST.2.2 (inb_in hg) hd (kk H locs hST)
        · cases h
      · rename_i hbq
        have h63 : ¬ t = 63 := fun q => by subst q; cases hbq
        unfold hI1 at h
        split at h
        · rename_i x a b n hk
          split at h
          · rename_i hg
            cases h
            obtain ⟨ho, h64, -⟩ := okR_arr hk hr
            exact ⟨vk_cons hv1 (fun _ _ q => by cases q), fun H locs lsM hST kk => so_iald hx hb hK hST.1 ho h64 hk hg hd (kk H locs hST)⟩
          · cases h
        · cases h
    · cases h
  · obtain rfl : n = 1 := hn.resolve_left (fun q => by cases q)
    unfold hBald at h
    split at h
    · rename_i i t j r
      have hv1 : vkS (pc, ls, r) := vk_tail (vk_tail (pc' := pc) hv)
      have hr : okR t j := vk_head (vk_tail (pc' := pc) hv) t j rfl
      unfold hB1 at h
      split at h
      · rename_i x a b n hk
        split at h
        · rename_i hg
          cases h
          obtain ⟨ho, h64, -⟩ := okR_arr hk hr
          exact ⟨vk_cons hv1 (fun _ _ q => by cases q), fun H locs lsM hST kk => so_bald hx hb hK hST.1 ho h64 hk hg hd (kk H locs hST)⟩
        · cases h
      · cases h
    · cases h
  · obtain rfl : n = 1 := hn.resolve_left (fun q => by cases q)
    unfold hAald at h
    split at h
    · rename_i i t j r
      have hv1 : vkS (pc, ls, r) := vk_tail (vk_tail (pc' := pc) hv)
      have hr : okR t j := vk_head (vk_tail (pc' := pc) hv) t j rfl
      unfold hA1 at h
      split at h
      · rename_i x a b n hk
        split at h
        · rename_i hg
          cases h
          obtain ⟨ho, h64, hra⟩ := okR_arr hk hr
          have hlt : ix i < n := Nat.not_le.mp fun q => inb_in hg (Or.inr q)
          have hm := of_decide_eq_true (List.all_eq_true.mp hra (ix i) (List.mem_range.mpr hlt))
          exact ⟨vk_cons hv1 (fun t i q => by cases q; exact Or.inl hm), fun H locs lsM hST kk => so_aald hx hb hK hST.1 ho h64 hk (Or.inl ⟨rfl, rfl⟩) hg hd (kk H locs hST)⟩
        · cases h
      · rename_i x a b n hk
        split at h
        · rename_i hg
          cases h
          obtain ⟨ho, h64, hra⟩ := okR_arr hk hr
          have hlt : ix i < n := Nat.not_le.mp fun q => inb_in hg (Or.inr q)
          have hm := of_decide_eq_true (List.all_eq_true.mp hra (ix i) (List.mem_range.mpr hlt))
          exact ⟨vk_cons hv1 (fun t i q => by cases q; exact Or.inl hm), fun H locs lsM hST kk => so_aald hx hb hK hST.1 ho h64 hk (Or.inr (Or.inl ⟨rfl, rfl⟩)) hg hd (kk H locs hST)⟩
        · cases h
      · rename_i x a b n hk
        split at h
        · rename_i hg
          cases h
          obtain ⟨ho, h64, hra⟩ := okR_arr hk hr
          have hlt : ix i < n := Nat.not_le.mp fun q => inb_in hg (Or.inr q)
          have hm := of_decide_eq_true (List.all_eq_true.mp hra (ix i) (List.mem_range.mpr hlt))
          exact ⟨vk_cons hv1 (fun t i q => by cases q; exact Or.inl hm), fun H locs lsM hST kk => so_aald hx hb hK hST.1 ho h64 hk (Or.inr (Or.inr ⟨rfl, rfl⟩)) hg hd (kk H locs hST)⟩
        · cases h
      · cases h
    · cases h
  · obtain rfl : n = 1 := hn.resolve_left (fun q => by cases q)
    unfold hIast at h
    split at h
    · rename_i v i t j r
      have hv2 : vkS (pc, ls, vR t j :: r) := vk_tail (vk_tail (pc' := pc) hv)
      have hv1 : vkS (pc, ls, r) := vk_tail hv2
      have hr : okR t j := vk_head hv2 t j rfl
      unfold hI2 at h
      split at h
      · rename_i x a b n hk
        split at h
        · rename_i hg
          cases h
          obtain ⟨ho, h64, -⟩ := okR_arr hk hr
          exact ⟨hv1, fun H locs lsM hST kk => so_iast hx hb hK hST.1 hST.2.1 hST.2.2 ho h64 hk hg hd (fun H1 locs1 q1 q2 q3 => kk H1 locs1 ⟨q1, q2, q3⟩)⟩
        · cases h
      · cases h
    · cases h
  · obtain rfl : n = 1 := hn.resolve_left (fun q => by cases q)
    unfold hBast at h
    split at h
    · rename_i v i t j r
      have hv2 : vkS (pc, ls, vR t j :: r) := vk_tail (vk_tail (pc' := pc) hv)
      have hv1 : vkS (pc, ls, r) := vk_tail hv2
      have hr : okR t j := vk_head hv2 t j rfl
      unfold hB2 at h
      split at h
      · rename_i x a b n hk
        split at h
        · rename_i hg
          rw [Bool.and_eq_true] at hg
          cases h
          obtain ⟨ho, h64, -⟩ := okR_arr hk hr
          exact ⟨hv1, fun H locs lsM hST kk => so_bast hx hb hK hST.1 hST.2.1 hST.2.2 ho h64 hk hg.1 hg.2 hd (fun H1 locs1 q1 q2 q3 => kk H1 locs1 ⟨q1, q2, q3⟩)⟩
        · cases h
      · cases h
    · cases h
  · obtain rfl : n = 1 := hn.resolve_left (fun q => by cases q)
    unfold hLen at h
    split at h
    · rename_i t j r
      have hv1 : vkS (pc, ls, r) := vk_tail hv
      have hr : okR t j := vk_head hv t j rfl
      split at h
      · rename_i hbq
        obtain rfl : t = 63 := Nat.eq_of_beq_eq_true hbq
        cases h
        have hj : ad 63 j = bs := by
          rcases hr with hr | ⟨-, rfl⟩
          · rcases OB_kind hr with q | ⟨q, -⟩ <;> omega
          · exact had
        refine ⟨vk_cons hv1 (fun _ _ q => by cases q), fun H locs lsM hST kk => ?_⟩
        show W p l e R s m args below meth c H locs cells slots Q (F0 m pc lsM (.ref (ad 63 j) :: r.map (iTv ad rho)))
        rw [hj]
        exact va_slen hx hb hX hbl hbA hST.2.2 hd (kk H locs hST)
      · cases h
    · cases h
  · cases h
end sHop
