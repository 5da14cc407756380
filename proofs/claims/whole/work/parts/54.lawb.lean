/-! The law's loop on the machine: from its head to the end, if the function says 1. -/
set_option maxHeartbeats 4000000 in
set_option maxRecDepth 100000 in
theorem so_law {p : Program} {l : Launch} {e : Env} {s : State} {m : MethodId} {below : List Frame} {meth : Method} {c : Code} {b L : Nat} {xs : Nat → Int32} (C0 : lw_At p s m meth c b L xs) {D : va_G} {ad : Nat → Nat → Nat} {ca : Nat → ClassId} {rho : Nat → Int32} (had : ad 63 0 = b) (hkk : kkS D ca b (L, xs) s)
    {S T S' T' : St} (hf : f_Law_law_48 (L, xs) 0 0 0 (3, S, T) = some (1, S', T')) {H : Heap} {locs : List Loc} {nC nS : Nat} (hST : stS D ad ca (fun q => s.heap.size ≤ q) s (S, T) H locs) (hC : nC ≤ 600000) (hS : nS ≤ 7302250) {lsM : Array Slot}
    (hF : iFr (iTv ad rho) [some (vR 63 0), some (vR 0 0), some (vR 1 0), some (vI 3)] lsM 4) : W p l e room_1 s m #[Value.ref b] below meth c H locs nC nS (lw_Z below #[Value.ref b] s) (F0 m 48 lsM []) := by
  obtain ⟨hx, hb, hr, hml, hown, hts, hX, hbl, hlocks, -⟩ := C0
  have hts' : ∀ w ∈ tbG, w.before #[Value.ref b] s = true := fun w hw => hts w (List.mem_filter.mp hw).1
  have hbA : ¬ (fun q => s.heap.size ≤ q) b := Nat.not_le.mpr hbl
  have hE := t_Law_law_48 (L, xs) 0 0 0 3 S T (o := (some (vI 1), (S', T'))) hf rfl
  obtain ⟨F, f, hrun⟩ := hE
  have hm : mthT 160 = some (13, 2, 4, 1, cd_Law_law) := rfl
  obtain ⟨y, bytes, ret', hy, -, -, -, -, -, -, hdec, hlk⟩ := meth_ok hm
  have hy2 : yT 160 = some (⟨"StreamLinkLaw", "law", "([I)Z"⟩, code, some .boolean) := rfl
  have hq := Option.some.inj (hy.symm.trans hy2)
  have hby : bytes = code := congrArg (fun q => q.2.1) hq
  rw [hby] at hdec
  refine snd_run (hop := hopS (L, xs)) (tg := tgT) (call := iMet (hopS (L, xs)) tgT mthT F 8) (ST := stS D ad ca (fun q => s.heap.size ≤ q) s) (vk := fun _ k => vkS k) (cf := fun _ => (nC, nS)) (nL := 4) (ad := ad) (rho := rho) (own := 13) (rk := 2) (cd := cd_Law_law) (cc := code) (some (vI 1), (S', T')) hx hb hdec ?_ ?_ (fun i ts k k' _ hs hv => vk_stp hs hv) ?_ ?_ ?_ f (48, [some (vR 63 0), some (vR 0 0), some (vR 1 0), some (vI 3)], []) (S, T) hrun ?_ H locs lsM hST hF
  · intro q hq x hqx
    have := hlk q hq
    rw [hqx] at this
    exact ⟨cn 13, hown, hts' _ (cs_in (of_decide_eq_true this))⟩
  · intro q hq x hqx
    have := hlk q hq
    rw [hqx] at this
    exact ⟨cn 13, hown, hts' _ (cs_in (of_decide_eq_true this))⟩
  · intro i n k st' S1 S2 hh hd _ hn hv _
    have := so_hop (cells := nC) (slots := nS) (l := l) (e := e) (R := room_1) (below := below) (meth := meth) (Q := lw_Z below #[Value.ref b] s) (rho := rho) (A := fun q => s.heap.size ≤ q) (own := 13) hx hb hts' (fun _ h => h) hown hkk.1 hkk.2.2 hkk.lt hbA had i n k st' S1 S2 hh hd hn hv
    exact ⟨this.1, fun H locs lsM _ hST kk => this.2 H locs lsM hST kk⟩
  · intro i n kx j2 nn k r S1 S2 hi ht hok8 hc hd hmem hn hv _ H locs lsM hsz hST kk
    exact so_callS (R := room_1) (cells := nC) (slots := nS) (own := 13) hbA hx hb hml hown hts' (fun _ h => h) hkk hlk (by decide) (by decide) ⟨hC, hS⟩ (so_met l hbA had F 8) i n kx j2 nn k r S1 S2 hi ht hok8 hc hd hmem hn hv H locs lsM hsz hST kk
  · intro i n k S1 r ho hrt hd hn hv H locs lsM hST
    cases ho
    obtain ⟨pc, ls1, st1⟩ := k
    dsimp only at hrt hd ⊢
    unfold iRet at hrt
    split at hrt
    · split at hrt
      · cases hrt
      · cases hrt
    · split at hrt
      · rename_i h1; cases h1
      · split at hrt
        · cases hrt
          obtain rfl : n = 1 := hn.resolve_left (fun q => by cases q)
          exact va_forget (fun q hq => hST.2.2.2.2 q hq) (W.widen hC hS (lw_ret hx hb hr hlocks hd))
        · cases hrt
      · cases hrt
    · split at hrt
      · cases hrt
      · cases hrt
    · cases hrt
  · refine ⟨fun t i hq => (by cases hq), fun n t i hq => ?_⟩
    rcases n with _ | _ | _ | _ | n
    · cases hq; exact Or.inr ⟨rfl, rfl⟩
    · cases hq; exact Or.inl (by decide +kernel)
    · cases hq; exact Or.inl (by decide +kernel)
    · cases hq
    · cases hq
