/-! Time in the class. -/
theorem min_I {a b : Nat} (ha : a < 2 ^ 31) (hb : b < 2 ^ 31) : f_Math_min (I a) (I b) = I (min a b) := by
  unfold f_Math_min
  by_cases h : b < a
  · rw [Nat.min_eq_right (by omega), if_pos ((I_lt hb ha).mpr h)]
  · rw [Nat.min_eq_left (by omega), if_neg (fun z => by have := (I_lt hb ha).mp z; omega)]
theorem max_I {a b : Nat} (ha : a < 2 ^ 31) (hb : b < 2 ^ 31) : f_Math_max (I a) (I b) = I (max a b) := by
  unfold f_Math_max
  by_cases h : a < b
  · rw [Nat.max_eq_right (by omega), if_pos ((I_lt ha hb).mpr h)]
  · rw [Nat.max_eq_left (by omega), if_neg (fun z => by have := (I_lt ha hb).mp z; omega)]
theorem RSe_oeq {A : MA} {e : Nat} {S : St} {ao : Nat → Nat → OW} (h : RSe A e S) (hq : ∀ n, aN A e 3 < n → n ≤ aN A e 4 → ao e n = aO A e n) : RSe (uO A ao) e S :=
  ⟨h.1, ⟨fun n a b => by
    have a' : aN A e 3 < n := a
    have b' : n ≤ aN A e 4 := b
    show owS (ao e n) n S _
    rw [hq n a' b']
    exact h.2.1.1 n a' b', h.2.1.2⟩, h.2.2⟩
theorem smap_s {A : MA} {S S' : St} {e i : Nat} {f : Nat → OW} (h : RSe (m_mapN A e (aN A e 3 + i) f) e S) (he : e < 2) (hi : aN A e 3 + 1 + i ≤ aN A e 4) (hl : aN A e 4 ≤ aN A e 3 + 24) (c : ∀ x k, (x < 49 ∨ 51 < x ∨ k ≠ 24 * e + (aN A e 3 + 1 + i) % 24) → S' x k = S x k) (ho : owS (f (aN A e 3 + 1 + i)) (aN A e 3 + 1 + i) S' (24 * e + (aN A e 3 + 1 + i) % 24)) : RSe (m_mapN A e (aN A e 3 + (i + 1)) f) e S' := by
  have h2 := RSx_O h (S' := S') (n := aN A e 3 + 1 + i) (o := f (aN A e 3 + 1 + i)) he hl (show aN A e 3 < _ by omega) (show _ ≤ aN A e 4 by omega) c ho
  have h3 := RSe_oeq (ao := aO (m_mapN A e (aN A e 3 + (i + 1)) f)) h2 (fun n a b => by
    show (if e = e ∧ n ≤ aN A e 3 + (i + 1) then f n else aO A e n) = up2 (fun x n => if x = e ∧ n ≤ aN A e 3 + i then f n else aO A x n) e (aN A e 3 + 1 + i) (f (aN A e 3 + 1 + i)) e n
    by_cases hz : n = aN A e 3 + 1 + i
    · subst hz
      rw [up2_eq, if_pos ⟨rfl, by omega⟩]
    · rw [up2_ne2 hz]
      by_cases hy : n ≤ aN A e 3 + i
      · have q1 : (if e = e ∧ n ≤ aN A e 3 + (i + 1) then f n else aO A e n) = f n := if_pos ⟨rfl, by omega⟩
        have q2 : (if e = e ∧ n ≤ aN A e 3 + i then f n else aO A e n) = f n := if_pos ⟨rfl, hy⟩
        rw [q1, q2]
      · have q1 : (if e = e ∧ n ≤ aN A e 3 + (i + 1) then f n else aO A e n) = aO A e n := if_neg (by omega)
        have q2 : (if e = e ∧ n ≤ aN A e 3 + i then f n else aO A e n) = aO A e n := if_neg (by omega)
        rw [q1, q2])
  exact h3
theorem smap_0 {A : MA} {S : St} {e : Nat} {f : Nat → OW} (h : RSe A e S) : RSe (m_mapN A e (aN A e 3 + 0) f) e S := by
  have h3 := RSe_oeq (ao := aO (m_mapN A e (aN A e 3 + 0) f)) h (fun n a b => if_neg (by omega))
  exact h3
theorem smap_o {A : MA} {S : St} {e i : Nat} {f : Nat → OW} (h : RSe (m_mapN A e (aN A e 3 + i) f) e S) (hi : aN A e 3 + 1 + i ≤ aN A e 4) : owS (aO A e (aN A e 3 + 1 + i)) (aN A e 3 + 1 + i) S (24 * e + (aN A e 3 + 1 + i) % 24) := by
  have ho := sr_o h (n := aN A e 3 + 1 + i) (show aN A e 3 < _ by omega) (show _ ≤ aN A e 4 by omega)
  have e1 : aO (m_mapN A e (aN A e 3 + i) f) e (aN A e 3 + 1 + i) = aO A e (aN A e 3 + 1 + i) := if_neg (by omega)
  rw [e1] at ho
  exact ho
theorem smap_end {A : MA} {S : St} {e b : Nat} {f : Nat → OW} {ao : Nat → Nat → OW} (h : RSe (m_mapN A e b f) e S) (hb : aN A e 4 ≤ b) (h1 : ∀ n, aN A e 3 < n → n ≤ aN A e 4 → ao e n = f n) : RSe (uO A ao) e S := by
  have h3 := RSe_oeq (ao := ao) h (fun n a b' => by
    have a' : aN A e 3 < n := a
    have b'' : n ≤ aN A e 4 := b'
    show ao e n = if e = e ∧ n ≤ b then f n else aO A e n
    rw [if_pos ⟨rfl, by omega⟩]
    exact h1 n a' b'')
  exact h3
def markF (A : MA) (e p n : Nat) : OW := if oSt A e n = 2 ∧ oPa A e n = p then (oWd A e n, 3, p, oSk A e n) else aO A e n
theorem S_mark {A : MA} {e p : Nat} {S : St} (h : RSe A e S) (he : e < 2) (hp : p < 2) (hb : bO A e) : sat (f_Outbox_markAllOut e (I p) S) (fun S' => RSe (m_mark A e p) e S' ∧ frS e S S') := by
  obtain ⟨b1, b2, b3, b4, b5, b6, b7, b8⟩ := hb
  have hf : S cOutbox_firstNumber e 0 = I (aN A e 3 + 1) := sr_first h
  unfold f_Outbox_markAllOut f_Outbox_markAllOut_5
  rw [hf]
  refine sat_upP (fun i x => x.1 = I (aN A e 3 + 1 + i) ∧ RSe (m_mapN A e (aN A e 3 + i) (markF A e p)) e x.2 ∧ frS e S x.2) (m_len A e) (fun i x hi hx => ?_) (fun x hx => ?_) ⟨rfl, smap_0 h, frS.rfl⟩ (by unfold m_len; omega)
  · obtain ⟨c, S1⟩ := x
    obtain ⟨rfl, h1, h2⟩ := hx
    replace h1 : RSe (m_mapN A e (aN A e 3 + i) (markF A e p)) e S1 := h1
    replace h2 : frS e S S1 := h2
    unfold m_len at hi
    obtain ⟨⟨o1, o2, o3⟩, o4⟩ := smap_o h1 (by omega)
    have hn : S1 cOutbox_nextNumber e 0 = I (aN A e 4 + 1) := by
      have z := sr_next h1
      exact z
    have o1' : S1 cSentWord_state (24 * e + (aN A e 3 + 1 + i) % 24) 0 = oSt A e (aN A e 3 + 1 + i) := o1
    have o2' : S1 cSentWord_lastPath (24 * e + (aN A e 3 + 1 + i) % 24) 0 = I (oPa A e (aN A e 3 + 1 + i)) := o2
    have hpa := b5 (aN A e 3 + 1 + i)
    unfold f_Outbox_markAllOut_5_b f_Outbox_markAllOut_46
    dsimp only
    rw [hn, if_pos ((I_lt (by omega) (by omega)).mpr (by omega)), S_at (by omega), bdS, bdS, bdS, o1', o2', show I (aN A e 3 + 1 + i) + 1 = I (aN A e 3 + 1 + i + 1) from I_add _ 1]
    have same : markF A e p (aN A e 3 + 1 + i) = aO A e (aN A e 3 + 1 + i) → RSe (m_mapN A e (aN A e 3 + (i + 1)) (markF A e p)) e S1 := fun hz => smap_s h1 he (by omega) b3 (fun _ _ _ => rfl) (by rw [hz]; exact ⟨⟨o1, o2, o3⟩, o4⟩)
    by_cases c1 : oSt A e (aN A e 3 + 1 + i) = 2
    · rw [if_pos c1]
      by_cases c2 : oPa A e (aN A e 3 + 1 + i) = p
      · rw [if_pos (by rw [c2])]
        refine .some ⟨rfl, ?_, h2.up (ow_sw (by decide) (by omega))⟩
        refine smap_s h1 he (by omega) b3 (fun x k hx => ?_) ?_
        · dsimp only
          rw [up3_ob (c := 49) (by omega)]
        · have hm : markF A e p (aN A e 3 + 1 + i) = (oWd A e (aN A e 3 + 1 + i), 3, p, oSk A e (aN A e 3 + 1 + i)) := if_pos ⟨c1, c2⟩
          rw [hm]
          dsimp only
          refine ⟨⟨?_, ?_, ?_⟩, wrS_cg o4 (fun x a b => by rw [up3_ob (c := 49) (by omega)])⟩
          · rw [up3_at, if_pos rfl]
          · rw [up3_code (by decide), ← c2]; exact o2
          · rw [up3_code (by decide)]; exact o3
      · rw [if_neg (fun z => c2 ((I_eq (by omega) (by omega)).mp z))]
        exact .some ⟨rfl, same (if_neg (fun z => c2 z.2)), h2⟩
    · rw [if_neg c1]
      exact .some ⟨rfl, same (if_neg (fun z => c1 z.1)), h2⟩
  · obtain ⟨c, S1⟩ := x
    obtain ⟨rfl, h1, h2⟩ := hx
    replace h1 : RSe (m_mapN A e (aN A e 3 + m_len A e) (markF A e p)) e S1 := h1
    have hn : S1 cOutbox_nextNumber e 0 = I (aN A e 4 + 1) := by
      have z := sr_next h1
      exact z
    have hml : aN A e 3 + m_len A e = aN A e 4 := by unfold m_len; omega
    unfold f_Outbox_markAllOut_5_b
    dsimp only
    rw [hn, if_neg (fun z => by have := (I_lt (by omega) (by omega)).mp z; omega)]
    refine .exW (.some ⟨smap_end h1 (by omega) (fun n _ _ => ?_), h2⟩)
    unfold markF
    by_cases hz : oSt A e n = 2 ∧ oPa A e n = p
    · rw [if_pos hz, if_pos ⟨rfl, hz⟩]
    · rw [if_neg hz, if_neg (fun z => hz z.2)]
theorem S_slow {A : MA} {e p : Nat} {S : St} (h : RSe A e S) (hp : p < 2) (hw : aN A e (9 + p) ≤ 24) : RSe (sB (sN (sN A e (7 + p) 1) e (9 + p) (min 24 (aN A e (9 + p) * 2))) e (2 + p) false) e (f_Path_slowDown (2 * e + p) S) := by
  refine ss_path h hp (.trans (.trans (eqX_N (by omega)) (eqX_N (by omega))) eqX_B) ?_ rfl rfl (fun q hq hne => ⟨⟨?_, ?_, ?_⟩, ⟨rfl, rfl⟩, up2_ne2 (by omega), up2_ne2 (by omega), up2_ne2 (by omega)⟩) (fun x i hx => ?_) (fun _ hps => ?_)
  · show up2 (up2 (aN A) e (7 + p) 1) e (9 + p) _ e 2 = _
    rw [up2_ne2 (by omega), up2_ne2 (by omega)]
  · show up2 (up2 (aN A) e (7 + p) 1) e (9 + p) _ e (7 + q) = _
    rw [up2_ne2 (by omega), up2_ne2 (by omega)]
  · show up2 (up2 (aN A) e (7 + p) 1) e (9 + p) _ e (9 + q) = _
    rw [up2_ne2 (by omega), up2_ne2 (by omega)]
  · show up2 (up2 (aN A) e (7 + p) 1) e (9 + p) _ e (11 + q) = _
    rw [up2_ne2 (by omega), up2_ne2 (by omega)]
  · unfold f_Path_slowDown
    rw [up3_ob (c := 37) (by omega), up3_ob (c := 34) (by omega), up3_ob (c := 33) (by omega)]
  · obtain ⟨⟨p1, p2, p3⟩, p4, ⟨p5, p6⟩, p7, p8⟩ := hps
    have p2' : S cPath_wait (2 * e + p) 0 = I (aN A e (9 + p)) := p2
    unfold f_Path_slowDown
    rw [p2', show I (aN A e (9 + p)) * 2 = I (aN A e (9 + p) * 2) from I_mul _ 2, show f_Math_min 24 (I (aN A e (9 + p) * 2)) = I (min 24 (aN A e (9 + p) * 2)) from min_I (a := 24) (by decide) (by omega)]
    have n7 : aN (sB (sN (sN A e (7 + p) 1) e (9 + p) (min 24 (aN A e (9 + p) * 2))) e (2 + p) false) e (7 + p) = 1 := by
      show up2 (up2 (aN A) e (7 + p) 1) e (9 + p) _ e (7 + p) = _
      rw [up2_ne2 (by omega), up2_eq]
    have n9 : aN (sB (sN (sN A e (7 + p) 1) e (9 + p) (min 24 (aN A e (9 + p) * 2))) e (2 + p) false) e (9 + p) = min 24 (aN A e (9 + p) * 2) := up2_eq
    have b0 : aB (sB (sN (sN A e (7 + p) 1) e (9 + p) (min 24 (aN A e (9 + p) * 2))) e (2 + p) false) e p = aB A e p := up2_ne2 (by omega)
    have b2 : aB (sB (sN (sN A e (7 + p) 1) e (9 + p) (min 24 (aN A e (9 + p) * 2))) e (2 + p) false) e (2 + p) = false := up2_eq
    have b4 : aB (sB (sN (sN A e (7 + p) 1) e (9 + p) (min 24 (aN A e (9 + p) * 2))) e (2 + p) false) e (4 + p) = aB A e (4 + p) := up2_ne2 (by omega)
    unfold pS
    rw [n7, n9, b0, b2, b4]
    refine ⟨⟨?_, ?_, ?_⟩, ?_, ⟨?_, fun z => by cases z⟩, ?_, fun z => ?_⟩
    · rw [up3_code (by decide), up3_code (by decide), up3_at, if_pos rfl]; rfl
    · rw [up3_code (by decide), up3_at, if_pos rfl]
    · rw [up3_code (by decide), up3_code (by decide), up3_code (by decide)]; exact p3
    · rw [up3_code (by decide), up3_code (by decide), up3_code (by decide)]; exact p4
    · rw [up3_at, if_pos rfl]; rfl
    · rw [up3_code (by decide), up3_code (by decide), up3_code (by decide)]; exact p7
    · rw [up3_code (by decide), up3_code (by decide), up3_code (by decide)]; exact p8 z
theorem slow_fr {e p : Nat} {S : St} (hp : p < 2) : frS e S (f_Path_slowDown (2 * e + p) S) := ((frS.rfl.up (ow_p (by decide) hp)).up (ow_p (by decide) hp)).up (ow_p (by decide) hp)
theorem S_err {A : MA} {e p : Nat} {S : St} (h : RSe A e S) (he : e < 2) (h3 : aI A e 0 = 3) (hbp : bP A) (hp : p < 2) (hpr : aN A e 2 < 2) (hH : ∀ k n, 544 ≤ n → aH A e k n = false) : sat (f_End_addError e (2 * e + p) S) (fun S' => RSe (m_fail A e p) e S' ∧ frS e S S') := by
  have hu := h.1.2 h3
  have hE : S cPath_errors (2 * e + p) 0 = aI A e (6 + p) := (hu.2 p hp).1.2.2
  have hA : S cEnd_allErrors e 0 = aI A e 4 := hu.1.2.1
  have hlim : S cEnd_limit e 0 = I (gN A 2) := h.2.2.2.2.1
  have k33 : ∀ S1 b, RSe (sB (sI (sI A e (6 + p) (aI A e (6 + p) + 1)) e 4 (aI A e 4 + 1)) e p b) e S1 → frS e S S1 → b = (aB A e p && decide (aI A e (6 + p) + 1 < 3)) → S1 14 e 0 = aI A e 4 + 1 → S1 12 e 0 = I (gN A 2) → sat (f_End_addError_33 e S1) (fun S' => RSe (m_fail A e p) e S' ∧ frS e S S') := by
    intro S1 b h1 hf hb h14 h12
    have h14' : S1 cEnd_allErrors e 0 = aI A e 4 + 1 := h14
    have h12' : S1 cEnd_limit e 0 = I (gN A 2) := h12
    unfold f_End_addError_33 m_fail
    rw [h14', h12']
    dsimp only
    rw [← hb]
    by_cases hc : I (gN A 2) < aI A e 4 + 1
    · rw [if_pos hc]
      simp only [if_pos hc]
      have hbC : bP (sB (sI (sI A e (6 + p) (aI A e (6 + p) + 1)) e 4 (aI A e 4 + 1)) e p b) := hbp
      have hHC : ∀ k n, 544 ≤ n → aH (sB (sI (sI A e (6 + p) (aI A e (6 + p) + 1)) e 4 (aI A e 4 + 1)) e p b) e k n = false := hH
      have hpC : aN (sB (sI (sI A e (6 + p) (aI A e (6 + p) + 1)) e 4 (aI A e 4 + 1)) e p b) e 2 < 2 := hpr
      have hsC : aI (sB (sI (sI A e (6 + p) (aI A e (6 + p) + 1)) e 4 (aI A e 4 + 1)) e p b) e 0 = 3 := by
        show up2 (up2 (aI A) e (6 + p) _) e 4 _ e 0 = 3
        rw [up2_ne2 (by decide), up2_ne2 (by omega)]
        exact h3
      have hoC : aI (sB (sI (sI A e (6 + p) (aI A e (6 + p) + 1)) e 4 (aI A e 4 + 1)) e p b) e 2 = aI A e 2 := by
        show up2 (up2 (aI A) e (6 + p) _) e 4 _ e 2 = _
        rw [up2_ne2 (by decide), up2_ne2 (by omega)]
      rw [← hoC]
      generalize sB (sI (sI A e (6 + p) (aI A e (6 + p) + 1)) e 4 (aI A e 4 + 1)) e p b = C at *
      refine .bd (S_pabort h1 he (h1.1.2 hsC) hbC hpC) (fun S2 h2 => ?_)
      exact .bd (S_close h2.1 he (m_post_aHk hHC)) (fun S3 h3' => .some ⟨h3'.1, (hf.trans h2.2).trans h3'.2⟩)
    · rw [if_neg hc]
      simp only [if_neg hc]
      exact .some ⟨h1, hf⟩
  have recE : ∀ b : Bool, ∀ S1 : St, (∀ x i, x ≠ 14 → (x < 33 ∨ 41 < x ∨ i ≠ 2 * e + p) → S1 x i = S x i) → S1 14 e 0 = aI A e 4 + 1 → S1 35 (2 * e + p) 0 = aI A e (6 + p) + 1 → S1 36 (2 * e + p) 0 = b01 b → (∀ x, x ≠ 35 → x ≠ 36 → x ≠ 14 → S1 x = S x) → RSe (sB (sI (sI A e (6 + p) (aI A e (6 + p) + 1)) e 4 (aI A e 4 + 1)) e p b) e S1 := by
    intro b S1 c c14 c35 c36 cx
    have iI : ∀ i, i ≠ 6 + p → i ≠ 4 → aI (sB (sI (sI A e (6 + p) (aI A e (6 + p) + 1)) e 4 (aI A e 4 + 1)) e p b) e i = aI A e i := fun i a d => by
      show up2 (up2 (aI A) e (6 + p) _) e 4 _ e i = _
      rw [up2_ne2 d, up2_ne2 a]
    have i6 : aI (sB (sI (sI A e (6 + p) (aI A e (6 + p) + 1)) e 4 (aI A e 4 + 1)) e p b) e (6 + p) = aI A e (6 + p) + 1 := by
      show up2 (up2 (aI A) e (6 + p) _) e 4 _ e (6 + p) = _
      rw [up2_ne2 (by omega), up2_eq]
    have i4 : aI (sB (sI (sI A e (6 + p) (aI A e (6 + p) + 1)) e 4 (aI A e 4 + 1)) e p b) e 4 = aI A e 4 + 1 := up2_eq
    refine RSx_P h hp (.trans (.trans (eqX_I (by omega)) (eqX_I (by omega))) eqX_B) rfl (iI 5 (by omega) (by decide)) (fun q hq hne => ⟨⟨rfl, rfl, rfl⟩, ⟨iI _ (by omega) (by omega), iI _ (by omega) (by omega)⟩, up2_ne2 (by omega), up2_ne2 (by omega), up2_ne2 (by omega)⟩) c (fun _ _ => by rw [i4]; exact c14) (fun _ hps => ?_)
    obtain ⟨⟨p1, p2, p3⟩, p4, ⟨p5, p6⟩, p7, p8⟩ := hps
    have b0 : aB (sB (sI (sI A e (6 + p) (aI A e (6 + p) + 1)) e 4 (aI A e 4 + 1)) e p b) e p = b := up2_eq
    have b2 : aB (sB (sI (sI A e (6 + p) (aI A e (6 + p) + 1)) e 4 (aI A e 4 + 1)) e p b) e (2 + p) = aB A e (2 + p) := up2_ne2 (by omega)
    have b4 : aB (sB (sI (sI A e (6 + p) (aI A e (6 + p) + 1)) e 4 (aI A e 4 + 1)) e p b) e (4 + p) = aB A e (4 + p) := up2_ne2 (by omega)
    unfold pS
    rw [i6, iI (8 + p) (by omega) (by omega), b0, b2, b4, cx 33 (by decide) (by decide) (by decide), cx 34 (by decide) (by decide) (by decide), cx 37 (by decide) (by decide) (by decide), cx 38 (by decide) (by decide) (by decide), cx 39 (by decide) (by decide) (by decide), cx 40 (by decide) (by decide) (by decide)]
    exact ⟨⟨p1, p2, c35⟩, c36, ⟨p5, p6⟩, p7, p8⟩
  unfold f_End_addError
  have e35 : up3 S cPath_errors (2 * e + p) 0 (aI A e (6 + p) + 1) cPath_errors (2 * e + p) 0 = aI A e (6 + p) + 1 := by rw [up3_at, if_pos rfl]
  rw [hE, hA, e35]
  have hA36 : S 36 (2 * e + p) 0 = b01 (aB A e p) := (hu.2 p hp).2.1
  have hf2 : frS e S (up3 (up3 S 35 (2 * e + p) 0 (aI A e (6 + p) + 1)) 14 e 0 (aI A e 4 + 1)) := (frS.rfl.up (ow_p (by decide) hp)).up (ow_e (by decide))
  by_cases hc : aI A e (6 + p) + 1 < 3
  · rw [if_pos hc]
    refine k33 _ (aB A e p) (recE (aB A e p) (up3 (up3 S 35 (2 * e + p) 0 (aI A e (6 + p) + 1)) 14 e 0 (aI A e 4 + 1)) (fun x i a b => ?_) ?_ ?_ ?_ (fun x a b d => ?_)) hf2 (by rw [decide_eq_true hc, Bool.and_true]) ?_ ?_
    · rw [up3_code a, up3_ob (by omega)]
    · rw [up3_at, if_pos rfl]
    · rw [up3_code (by decide), up3_at, if_pos rfl]
    · rw [up3_code (by decide), up3_code (by decide)]; exact hA36
    · rw [up3_code d, up3_code a]
    · rw [up3_at, if_pos rfl]
    · rw [up3_code (by decide), up3_code (by decide)]; exact hlim
  · rw [if_neg hc]
    refine k33 _ false (recE false (up3 (up3 (up3 S 35 (2 * e + p) 0 (aI A e (6 + p) + 1)) 14 e 0 (aI A e 4 + 1)) 36 (2 * e + p) 0 0) (fun x i a b => ?_) ?_ ?_ ?_ (fun x a b d => ?_)) (hf2.up (ow_p (by decide) hp)) (by rw [decide_eq_false hc, Bool.and_false]) ?_ ?_
    · rw [up3_ob (by omega), up3_code a, up3_ob (by omega)]
    · rw [up3_code (by decide), up3_at, if_pos rfl]
    · rw [up3_code (by decide), up3_code (by decide), up3_at, if_pos rfl]
    · rw [up3_at, if_pos rfl]; rfl
    · rw [up3_code b, up3_code d, up3_code a]
    · rw [up3_code (by decide), up3_at, if_pos rfl]
    · rw [up3_code (by decide), up3_code (by decide), up3_code (by decide)]; exact hlim
