def mS (A : MA) (e : Nat) : Nat := cntN (isTS A e) (aN A e 3) (m_len A e)
theorem m_out_N (A : MA) (e n p : Nat) {i : Nat} (hi : i < 11) : aN (m_out A e n p) e i = aN A e i := by
  unfold m_out m_timer
  split
  · show aN (m_post A _ _) e i = _
    rw [m_post_aN]
  · show up2 (aN (m_post A (2 * e + p) (pdat (aI A e 2) n (oWd A e n)))) e (11 + p) _ e i = _
    rw [up2_ne2 (by omega), m_post_aN]
theorem m_out_O (A : MA) (e n p : Nat) : aO (m_out A e n p) = up2 (aO A) e n (oWd A e n, 2, p, 0) := by
  unfold m_out m_timer
  split <;> rfl
theorem mS_one {A A' : MA} {e : Nat} (hb : bO A e) (h : m_sendOne A e = some A') : mS A' e < mS A e := by
  obtain ⟨b1, b2, b3, b4, b5, b6, b7, b8⟩ := hb
  unfold m_sendOne at h
  by_cases hn : aN A e 4 < m_fst A e
  · rw [if_pos hn] at h; cases h
  · rw [if_neg hn] at h
    by_cases hm : m_may A e (m_fst A e) (m_path A e (m_fst A e)) = true
    · rw [if_pos hm] at h
      cases h
      have hts : isTS A e (m_fst A e) = true := fstN_is _ _ _ (by
        show m_fst A e ≤ aN A e 3 + (aN A e 4 - aN A e 3)
        omega)
      have hgt : aN A e 3 < m_fst A e := fstN_gt _ _ _
      unfold mS m_len
      rw [m_out_N _ _ _ _ (by decide), m_out_N _ _ _ _ (by decide)]
      refine cntN_lt (n := m_fst A e) (fun k hk => ?_) hgt hts ?_ _ (by omega)
      · unfold isTS oSt at hk
        rw [m_out_O] at hk
        by_cases hz : k = m_fst A e
        · rw [hz]; exact hts
        · rw [up2_ne2 hz] at hk
          exact hk
      · unfold isTS oSt
        rw [m_out_O, up2_eq]
        show (decide ((2 : Int32) = 1) || decide ((2 : Int32) = 3)) = false
        decide
    · rw [if_neg hm] at h; cases h
theorem mS_none {A : MA} {e : Nat} (hb : bO A e) (h : mS A e = 0) : m_sendOne A e = none := by
  obtain ⟨b1, b2, b3, b4, b5, b6, b7, b8⟩ := hb
  unfold m_sendOne
  by_cases hn : aN A e 4 < m_fst A e
  · rw [if_pos hn]
  · exfalso
    have hts : isTS A e (m_fst A e) = true := fstN_is _ _ _ (by
      show m_fst A e ≤ aN A e 3 + (aN A e 4 - aN A e 3)
      omega)
    have hgt : aN A e 3 < m_fst A e := fstN_gt _ _ _
    have := cntN_pos (f := isTS A e) hgt hts (m_len A e) (by unfold m_len; omega)
    unfold mS at h
    omega
theorem sendAll_st {e : Nat} : ∀ (k : Nat) (A : MA), bP A → bO A e → mS A e ≤ k → ∀ j, m_sendAll e (k + j) A = m_sendAll e k A
  | 0, A => fun hp hb h j => by
    have hn := mS_none hb (by omega)
    cases j with
    | zero => rfl
    | succ j =>
      rw [Nat.zero_add]
      show (match m_sendOne A e with | none => A | some A' => m_sendAll e j A') = A
      rw [hn]
  | k + 1, A => fun hp hb h j => by
    rw [show k + 1 + j = (k + j) + 1 by omega, m_sendAll, m_sendAll]
    cases hz : m_sendOne A e with
    | none => rfl
    | some A' =>
      obtain ⟨x, y⟩ := m_sendOne_b hp hb hz
      have := mS_one hb hz
      exact sendAll_st k A' x y (by omega) j
theorem sendAll_24 {A : MA} {e : Nat} (hp : bP A) (hb : bO A e) : m_sendAll e 64 A = m_sendAll e 24 A := by
  refine sendAll_st 24 A hp hb ?_ 40
  have := cntN_le (isTS A e) (aN A e 3) (m_len A e)
  have h3 := hb.2.2.1
  unfold mS
  unfold m_len at *
  omega
theorem RSx_add {A : MA} {e : Nat} {S S' : St} (h : RSe A e S) (he : e < 2) (hl : aN A e 4 + 1 ≤ aN A e 3 + 24) {w : WC} (c : ∀ x i, (x < 49 ∨ 51 < x ∨ i ≠ 24 * e + (aN A e 4 + 1) % 24) → (x < 54 ∨ 60 < x ∨ i ≠ 24 * e + (aN A e 4 + 1) % 24 + 36) → (x ≠ 24 ∨ i ≠ e) → S' x i = S x i) (h24 : S' 24 e 0 = I (aN A e 4 + 1 + 1)) (ho : owS (w, 1, 0, 0) (aN A e 4 + 1) S' (24 * e + (aN A e 4 + 1) % 24)) : RSe (m_addW A e w) e S' := by
  obtain ⟨⟨⟨⟨e1, e2, e3, e4⟩, ⟨e5, e6⟩, ⟨e7, e8, e9⟩, ⟨e10, e11⟩, e12⟩, g2⟩, ⟨g3, g4, g5⟩, ⟨g6, g7⟩, g8⟩ := h
  have nN : ∀ i, i ≠ 4 → aN (m_addW A e w) e i = aN A e i := fun i hi => up2_ne2 hi
  have n4 : aN (m_addW A e w) e 4 = aN A e 4 + 1 := up2_eq
  have cE : ∀ x, x ≠ 24 → 7 ≤ x → x ≤ 48 → S' x e = S x e := fun x a b d => c x e (by omega) (by omega) (Or.inl a)
  refine ⟨⟨⟨⟨?_, ?_, ?_, ?_⟩, ⟨?_, ?_⟩, ⟨?_, ?_, ?_⟩, ⟨fun s hs => ?_, fun s hs => ?_⟩, ?_⟩, fun k => uS_c (g2 k) (nN 2 (by decide)) rfl rfl (fun p _ => ⟨⟨nN _ (by omega), nN _ (by omega), nN _ (by omega)⟩, ⟨rfl, rfl⟩, rfl, rfl, rfl⟩) (cE 10 (by decide) (by decide) (by decide)) (cE 14 (by decide) (by decide) (by decide)) (cE 25 (by decide) (by decide) (by decide)) (fun x q a b hq => c x _ (by omega) (by omega) (by omega))⟩, ⟨fun m a b => ?_, hS_c g4 (nN 5 (by decide)) rfl rfl (cE 18 (by decide) (by decide) (by decide)) (fun x k a b hk => c x _ (by omega) (by omega) (by omega)), rS_c g5 (fun x a b => cE x (by omega) (by omega) (by omega))⟩, ⟨rwS_cg g6 (c 47 _ (by omega) (by omega) (by omega)) (c 48 _ (by omega) (by omega) (by omega)) (fun x hx i p q => c x i (by unfold pcd at hx; omega) (by omega) (by unfold pcd at hx; omega)), rwS_cg g7 (c 47 _ (by omega) (by omega) (by omega)) (c 48 _ (by omega) (by omega) (by omega)) (fun x hx i p q => c x i (by unfold pcd at hx; omega) (by omega) (by unfold pcd at hx; omega))⟩, kS_c g8 rfl rfl rfl (cE 11 (by decide) (by decide) (by decide)) (cE 12 (by decide) (by decide) (by decide)) (cE 17 (by decide) (by decide) (by decide)) (fun x a b => c x 36 (by omega) (by omega) (by omega))⟩
  · rw [cE 7 (by decide) (by decide) (by decide)]; exact e1
  · rw [cE 8 (by decide) (by decide) (by decide)]; exact e2
  · rw [cE 9 (by decide) (by decide) (by decide)]; exact e3
  · rw [cE 13 (by decide) (by decide) (by decide)]; exact e4
  · rw [cE 15 (by decide) (by decide) (by decide), nN 0 (by decide)]; exact e5
  · rw [cE 16 (by decide) (by decide) (by decide), nN 1 (by decide)]; exact e6
  · rw [cE 23 (by decide) (by decide) (by decide), nN 3 (by decide)]; exact e7
  · rw [n4]; exact h24
  · rw [cE 21 (by decide) (by decide) (by decide), nN 5 (by decide)]; exact e9
  · rw [cE 22 (by decide) (by decide) (by decide), nN (13 + s) (by omega)]; exact e10 s hs
  · rw [cE 19 (by decide) (by decide) (by decide), nN (16 + s) (by omega)]; exact e11 s hs
  · rw [cE 20 (by decide) (by decide) (by decide)]; exact e12
  · rw [nN 3 (by decide)] at a
    rw [n4] at b
    show owS (up2 (aO A) e (aN A e 4 + 1) (w, 1, 0, 0) e m) m S' (24 * e + m % 24)
    by_cases hz : m = aN A e 4 + 1
    · subst hz
      rw [up2_eq]
      exact ho
    · rw [up2_ne2 hz]
      exact owS_cg (g3 m a (by omega)) (fun x p q => c x _ (by omega) (by omega) (by omega)) (fun x p q => c x _ (by omega) (by omega) (by omega))
theorem S_addStep {A : MA} {e s m k o : Nat} {S : St} (h : RSe A e S) (he : e < 2) (hk : k < m) (hm : m ≤ 4) (hl : aN A e 4 + 1 ≤ aN A e 3 + 24) (hg : aN A e 4 < 4000) {u v : Int32} (hu : u = 0 ∨ u = 1) : sat (f_Outbox_addMessage_19_b e (I s) u v (I m) (I o) (I k, S)) (Sum.elim (fun x => x.1 = I (k + 1) ∧ RSe (m_addW A e (v + I k, s, o, Nat.beq k 0, Nat.beq (k + 1) m, decide (u ≠ 0))) e x.2 ∧ frS e S x.2) (fun _ => False)) := by
  have hx : S cOutbox_nextNumber e 0 = I (aN A e 4 + 1) := sr_next h
  generalize hN : aN A e 4 + 1 = N at *
  have hub : u = b01 (decide (u ≠ 0)) := by rcases hu with rfl | rfl <;> rfl
  have huB : iIsB u = true := by rcases hu with rfl | rfl <;> rfl
  have fin : ∀ f l : Int32, f = b01 (Nat.beq k 0) → l = b01 (Nat.beq (k + 1) m) → RSe (m_addW A e (v + I k, s, o, Nat.beq k 0, Nat.beq (k + 1) m, decide (u ≠ 0))) e (up3 (up3 (up3 (up3 (up3 (up3 (up3 (up3 (up3 (up3 (up3 S 54 (24 * e + N % 24 + 36) 0 (I N)) 55 (24 * e + N % 24 + 36) 0 (v + I k)) 56 (24 * e + N % 24 + 36) 0 (I s)) 57 (24 * e + N % 24 + 36) 0 (I o)) 58 (24 * e + N % 24 + 36) 0 f) 59 (24 * e + N % 24 + 36) 0 l) 60 (24 * e + N % 24 + 36) 0 u) 49 (24 * e + N % 24) 0 1) 50 (24 * e + N % 24) 0 0) 51 (24 * e + N % 24) 0 0) 24 e 0 (I (N + 1))) ∧ frS e S (up3 (up3 (up3 (up3 (up3 (up3 (up3 (up3 (up3 (up3 (up3 S 54 (24 * e + N % 24 + 36) 0 (I N)) 55 (24 * e + N % 24 + 36) 0 (v + I k)) 56 (24 * e + N % 24 + 36) 0 (I s)) 57 (24 * e + N % 24 + 36) 0 (I o)) 58 (24 * e + N % 24 + 36) 0 f) 59 (24 * e + N % 24 + 36) 0 l) 60 (24 * e + N % 24 + 36) 0 u) 49 (24 * e + N % 24) 0 1) 50 (24 * e + N % 24) 0 0) 51 (24 * e + N % 24) 0 0) 24 e 0 (I (N + 1))) := by
    intro f l hf hl2
    have hm24 : N % 24 < 24 := Nat.mod_lt _ (by decide)
    constructor
    · refine RSx_add h he (by omega) (fun x i a b d => ?_) ?_ ?_
      · rw [hN] at a b
        rw [up3_ob (by omega), up3_ob (by omega), up3_ob (by omega), up3_ob (by omega), up3_ob (by omega), up3_ob (by omega), up3_ob (by omega), up3_ob (by omega), up3_ob (by omega), up3_ob (by omega), up3_ob (by omega)]
      · rw [up3_at, if_pos rfl, hN]
      · rw [hN]
        refine ⟨⟨?_, ?_, ?_⟩, ⟨⟨?_, ?_, ?_, ?_⟩, ?_, ?_, ?_⟩⟩
        · rw [up3_code (by decide), up3_code (by decide), up3_code (by decide), up3_at, if_pos rfl]
        · rw [up3_code (by decide), up3_code (by decide), up3_at, if_pos rfl]; rfl
        · rw [up3_code (by decide), up3_at, if_pos rfl]; rfl
        · rw [up3_code (by decide), up3_code (by decide), up3_code (by decide), up3_code (by decide), up3_code (by decide), up3_code (by decide), up3_code (by decide), up3_code (by decide), up3_code (by decide), up3_code (by decide), up3_at, if_pos rfl]
        · rw [up3_code (by decide), up3_code (by decide), up3_code (by decide), up3_code (by decide), up3_code (by decide), up3_code (by decide), up3_code (by decide), up3_code (by decide), up3_code (by decide), up3_at, if_pos rfl]
        · rw [up3_code (by decide), up3_code (by decide), up3_code (by decide), up3_code (by decide), up3_code (by decide), up3_code (by decide), up3_code (by decide), up3_code (by decide), up3_at, if_pos rfl]
        · rw [up3_code (by decide), up3_code (by decide), up3_code (by decide), up3_code (by decide), up3_code (by decide), up3_code (by decide), up3_code (by decide), up3_at, if_pos rfl]
        · rw [up3_code (by decide), up3_code (by decide), up3_code (by decide), up3_code (by decide), up3_code (by decide), up3_code (by decide), up3_at, if_pos rfl]; exact hf
        · rw [up3_code (by decide), up3_code (by decide), up3_code (by decide), up3_code (by decide), up3_code (by decide), up3_at, if_pos rfl]; exact hl2
        · rw [up3_code (by decide), up3_code (by decide), up3_code (by decide), up3_code (by decide), up3_at, if_pos rfl]; exact hub
    · exact ((((((((((frS.rfl.up (ow_sww (by decide) hm24 he)).up (ow_sww (by decide) hm24 he)).up (ow_sww (by decide) hm24 he)).up (ow_sww (by decide) hm24 he)).up (ow_sww (by decide) hm24 he)).up (ow_sww (by decide) hm24 he)).up (ow_sww (by decide) hm24 he)).up (ow_sw (by decide) hm24)).up (ow_sw (by decide) hm24)).up (ow_sw (by decide) hm24)).up (ow_e (by decide))
  have a1 : ∀ b : Int32, (b = if k = 0 then 1 else 0) → b = b01 (Nat.beq k 0) := by
    intro b hb
    rw [hb]
    cases k with
    | zero => rfl
    | succ k => rfl
  have a2 : ∀ b : Int32, (b = if k = m - 1 then 1 else 0) → b = b01 (Nat.beq (k + 1) m) := by
    intro b hb
    rw [hb]
    by_cases q : k = m - 1
    · rw [if_pos q]
      have : k + 1 = m := by omega
      rw [this, Nat.beq_refl]
      rfl
    · rw [if_neg q]
      have : Nat.beq (k + 1) m = false := by
        cases hz : Nat.beq (k + 1) m with
        | false => rfl
        | true => have := Nat.eq_of_beq_eq_true hz; omega
      rw [this]
      rfl
  have hk0 : (I k = 0) ↔ k = 0 := I_eq (b := 0) (by omega) (by decide)
  have hk1 : (I k = I (m - 1)) ↔ k = m - 1 := I_eq (by omega) (by omega)
  have i1 : I m - 1 = I (m - 1) := I_sub (b := 1) (by omega)
  have ik : I k + 1 = I (k + 1) := I_add k 1
  have iN : I N + 1 = I (N + 1) := I_add N 1
  unfold f_Outbox_addMessage_19_b f_Outbox_addMessage_94 f_Outbox_addMessage_116
  dsimp only
  rw [if_pos ((I_lt (by omega) (by omega)).mpr hk), hx, S_at (by omega), bdS, i1, huB, ik]
  rw [if_pos (show iIsB 1 = true by decide), if_pos (show iIsB 0 = true by decide), if_pos (show iIsB 1 = true by decide), if_pos (show iIsB 0 = true by decide), if_pos rfl, if_pos rfl]
  have hnx : ∀ f l : Int32, (up3 (up3 (up3 (up3 (up3 S cWord_number (24 * e + N % 24 + 36) 0 (I N)) cWord_value (24 * e + N % 24 + 36) 0 (v + I k)) cWord_stream (24 * e + N % 24 + 36) 0 (I s)) cWord_order (24 * e + N % 24 + 36) 0 (I o)) cWord_first (24 * e + N % 24 + 36) 0 f) cOutbox_nextNumber e 0 = I N := by
    intro f l
    rw [up3_code (by decide), up3_code (by decide), up3_code (by decide), up3_code (by decide), up3_code (by decide)]
    exact hx
  by_cases c0 : k = 0
  · rw [if_pos (hk0.mpr c0)]
    by_cases c1 : k = m - 1
    · rw [if_pos (hk1.mpr c1), hnx 1 1, iN]
      exact .some ⟨rfl, fin 1 1 (a1 1 (by rw [if_pos c0])) (a2 1 (by rw [if_pos c1]))⟩
    · rw [if_neg (fun z => c1 (hk1.mp z)), hnx 1 1, iN]
      exact .some ⟨rfl, fin 1 0 (a1 1 (by rw [if_pos c0])) (a2 0 (by rw [if_neg c1]))⟩
  · rw [if_neg (fun z => c0 (hk0.mp z))]
    by_cases c1 : k = m - 1
    · rw [if_pos (hk1.mpr c1), hnx 0 1, iN]
      exact .some ⟨rfl, fin 0 1 (a1 0 (by rw [if_neg c0])) (a2 1 (by rw [if_pos c1]))⟩
    · rw [if_neg (fun z => c1 (hk1.mp z)), hnx 0 1, iN]
      exact .some ⟨rfl, fin 0 0 (a1 0 (by rw [if_neg c0])) (a2 0 (by rw [if_neg c1]))⟩
theorem ss_orders {A : MA} {e s v : Nat} {S : St} (h : RSe A e S) (hs : s < 3) : RSe (sN A e (13 + s) v) e (up3 S 22 e s (I v)) := by
  refine RSx_E h (fun z => z) (fun i a b => rfl) (fun i a b => up2_ne2 (by omega)) ⟨rfl, rfl, rfl, rfl, rfl⟩ rfl ⟨rfl, rfl, rfl⟩ (fun x i hx => up3_ob (by unfold ecd at hx; omega)) ?_
  rintro ⟨⟨e1, e2, e3, e4⟩, ⟨e5, e6⟩, ⟨e7, e8, e9⟩, ⟨e10, e11⟩, e12⟩
  have cc : ∀ x, x ≠ 22 → up3 S 22 e s (I v) x = S x := fun x a => up3_code a
  have nN : ∀ i, i ≠ 13 + s → aN (sN A e (13 + s) v) e i = aN A e i := fun i hi => up2_ne2 hi
  refine ⟨⟨by rw [cc 7 (by decide)]; exact e1, by rw [cc 8 (by decide)]; exact e2, by rw [cc 9 (by decide)]; exact e3, by rw [cc 13 (by decide)]; exact e4⟩, ⟨by rw [cc 15 (by decide), nN 0 (by omega)]; exact e5, by rw [cc 16 (by decide), nN 1 (by omega)]; exact e6⟩, ⟨by rw [cc 23 (by decide), nN 3 (by omega)]; exact e7, by rw [cc 24 (by decide), nN 4 (by omega)]; exact e8, by rw [cc 21 (by decide), nN 5 (by omega)]; exact e9⟩, ⟨fun q hq => ?_, fun q hq => by rw [cc 19 (by decide), nN (16 + q) (by omega)]; exact e11 q hq⟩, by rw [cc 20 (by decide)]; exact e12⟩
  rw [up3_at]
  by_cases hz : q = s
  · subst hz
    rw [if_pos rfl]
    exact congrArg I up2_eq.symm
  · rw [if_neg hz, nN (13 + q) (by omega)]
    exact e10 q hq
theorem S_addM {A : MA} {e s m o : Nat} {S : St} (h : RSe A e S) (he : e < 2) (hs : s < 3) (hm : m ≤ 4) (hl : aN A e 4 + m ≤ aN A e 3 + 24) (hg : aN A e 4 + m < 4000) {u v : Int32} (hu : u = 0 ∨ u = 1) (ho : u = 0 → o = aN A e (13 + s)) (ho2 : u = 1 → o = 0) : sat (f_Outbox_addMessage_14 e (I s) u v (I m) (I o) S) (fun S' => RSe (m_add A e s (decide (u ≠ 0)) v m) e S' ∧ frS e S S') := by
  unfold f_Outbox_addMessage_14 f_Outbox_addMessage_19
  refine sat_upP (fun i x => x.1 = I i ∧ RSe (m_addM A e s o (decide (u ≠ 0)) v m i) e x.2 ∧ frS e S x.2) m (fun i x hi hx => ?_) (fun x hx => ?_) ⟨rfl, (show RSe (m_addM A e s o (decide (u ≠ 0)) v m 0) e S from h), frS.rfl⟩ (by omega)
  · obtain ⟨c, S1⟩ := x
    obtain ⟨rfl, h1, h2⟩ := hx
    obtain ⟨g1, g2⟩ := m_addM_gone A e s o (decide (u ≠ 0)) v m i
    refine (S_addStep h1 (k := i) (m := m) (o := o) (s := s) he hi hm (by rw [g1, g2]; omega) (by rw [g2]; omega) hu).imp (fun x hx => ?_)
    cases x with
    | inr _ => exact hx
    | inl x => exact ⟨hx.1, hx.2.1, h2.trans hx.2.2⟩
  · obtain ⟨c, S1⟩ := x
    obtain ⟨rfl, h1, h2⟩ := hx
    replace h1 : RSe (m_addM A e s o (decide (u ≠ 0)) v m m) e S1 := h1
    replace h2 : frS e S S1 := h2
    have hO : S1 cOutbox_nextOrders e s = I (aN A e (13 + s)) := by
      have := sr_orders h1 hs
      rw [m_addM_N, up2_ne2 (by omega)] at this
      exact this
    unfold f_Outbox_addMessage_19_b
    dsimp only
    rw [if_neg (fun z => by have := (I_lt (by omega) (by omega)).mp z; omega), inbT hs (by decide), I_ix (by omega), hO, show (1 : Int32) = I 1 from rfl, I_add]
    refine .exW ?_
    rcases hu with rfl | rfl
    · rw [if_pos rfl, if_pos rfl, if_pos rfl]
      refine .some ⟨?_, h2.up (ow_e (by decide))⟩
      rw [ho rfl] at h1
      exact ss_orders h1 hs
    · rw [if_neg (by decide)]
      rw [ho2 rfl] at h1
      exact .some ⟨h1, h2⟩
theorem m_add_I (A : MA) (e s : Nat) (lo : Bool) (v : Int32) (m : Nat) : aI (m_add A e s lo v m) = aI A := by
  have : ∀ o k, aI (m_addM A e s o lo v m k) = aI A := by
    intro o k
    induction k with
    | zero => rfl
    | succ k ih => exact ih
  unfold m_add
  cases lo
  · exact this _ _
  · exact this _ _
theorem m_add_g (A : MA) (e s : Nat) (lo : Bool) (v : Int32) (m : Nat) : aP (m_add A e s lo v m) = aP A ∧ gN (m_add A e s lo v m) = gN A ∧ gI (m_add A e s lo v m) = gI A ∧ gT (m_add A e s lo v m) = gT A ∧ frE e A (m_add A e s lo v m) := by
  have : ∀ o k, aP (m_addM A e s o lo v m k) = aP A ∧ gN (m_addM A e s o lo v m k) = gN A ∧ gI (m_addM A e s o lo v m k) = gI A ∧ gT (m_addM A e s o lo v m k) = gT A ∧ frE e A (m_addM A e s o lo v m k) := by
    intro o k
    induction k with
    | zero => exact ⟨rfl, rfl, rfl, rfl, .rfl⟩
    | succ k ih =>
      refine ⟨ih.1, ih.2.1, ih.2.2.1, ih.2.2.2.1, ih.2.2.2.2.trans ?_⟩
      rw [m_addM]
      unfold m_addW
      exact .trans (fr_uO (fun x hx => up2_row hx)) fr_sN
  unfold m_add
  cases lo
  · obtain ⟨a, b, c, d, e⟩ := this (aN A e (13 + s)) m
    exact ⟨a, b, c, d, e.trans fr_sN⟩
  · exact this _ _
theorem sendAll_g {e : Nat} (he : e < 2) : ∀ (k : Nat) (A : MA), bO A e → bP A → (∀ r, r / 2 ≠ e → aP (m_sendAll e k A) r = aP A r) ∧ gI (m_sendAll e k A) = gI A ∧ gT (m_sendAll e k A) = gT A
  | 0, A => fun _ _ => ⟨fun _ _ => rfl, rfl, rfl⟩
  | k + 1, A => fun hb hp => by
    show (∀ r, r / 2 ≠ e → aP (match m_sendOne A e with | none => A | some A' => m_sendAll e k A') r = aP A r) ∧ gI (match m_sendOne A e with | none => A | some A' => m_sendAll e k A') = gI A ∧ gT (match m_sendOne A e with | none => A | some A' => m_sendAll e k A') = gT A
    cases hz : m_sendOne A e with
    | none => exact ⟨fun _ _ => rfl, rfl, rfl⟩
    | some A' =>
      obtain ⟨x, y⟩ := m_sendOne_b hp hb hz
      obtain ⟨i1, i2, i3⟩ := sendAll_g he k A' y x
      have hpl := m_path_lt (n := m_fst A e) hb
      have key : (∀ r, r / 2 ≠ e → aP A' r = aP A r) ∧ gI A' = gI A ∧ gT A' = gT A := by
        unfold m_sendOne at hz
        split at hz
        · cases hz
        · split at hz
          · cases hz
            refine ⟨fun r hr => ?_, ?_, ?_⟩
            · unfold m_out
              rw [m_timer_aP]
              show aP (m_post A _ _) r = _
              rw [m_post_aP (by omega)]
            · unfold m_out m_timer
              split
              · exact m_post_gI _ _ _
              · exact m_post_gI _ _ _
            · unfold m_out m_timer
              split
              · exact m_post_gT _ _ _
              · exact m_post_gT _ _ _
          · cases hz
      exact ⟨fun r hr => (i1 r hr).trans (key.1 r hr), i2.trans key.2.1, i3.trans key.2.2⟩
theorem S_send {A : MA} {S : St} (h : RS A S) (hbp : bP A) {e s m : Nat} (he : e < 2) (hs : s < 3) (hm : 1 ≤ m) (hm2 : m ≤ 4) (hb : bO A e) (hg : aN A e 4 + m < 4000) {u v : Int32} (hu : u = 0 ∨ u = 1) : sat (f_L_send 0 (I e) (I s) u v (I m) S) (fun x => x.1 = (if aI A e 0 ≠ 3 ∨ 24 < m_len A e + m then 0 else 1) ∧ RS (if aI A e 0 ≠ 3 ∨ 24 < m_len A e + m then A else m_send A e s (decide (u ≠ 0)) v m) x.2) := by
  obtain ⟨b1, b2, b3, b4, b5, b6, b7, b8⟩ := id hb
  have hst : S cEnd_state e 0 = aI A e 0 := sr_state (h.e he)
  have hf : S cOutbox_firstNumber e 0 = I (aN A e 3 + 1) := sr_first (h.e he)
  have hx : S cOutbox_nextNumber e 0 = I (aN A e 4 + 1) := sr_next (h.e he)
  unfold f_L_send f_L_send_26 f_L_send_61 f_Outbox_count
  rw [if_neg (isEnd_I he), if_neg (isStr_I hs), if_neg (show ¬ I m < 1 from fun z => by have := (I_lt (b := 1) (by omega) (by decide)).mp z; omega), if_neg (show ¬ (4 : Int32) < I m from fun z => by have := (I_lt (a := 4) (by decide) (by omega)).mp z; omega), inbT he (by decide), if_pos rfl, I_ix (by omega), hst]
  by_cases h3 : aI A e 0 = 3
  · rw [if_pos h3, hf, hx, I_sub (by omega), I_add, show aN A e 4 + 1 - (aN A e 3 + 1) = aN A e 4 - aN A e 3 by omega]
    have hL : ((24 : Int32) < I (aN A e 4 - aN A e 3 + m)) ↔ 24 < m_len A e + m := I_lt (a := 24) (by decide) (by omega)
    by_cases h24 : 24 < m_len A e + m
    · rw [if_pos (hL.mpr h24)]
      simp only [if_pos (Or.inr h24 : aI A e 0 ≠ 3 ∨ 24 < m_len A e + m)]
      exact .some ⟨rfl, h⟩
    · rw [if_neg (fun z => h24 (hL.mp z))]
      have hc : ¬ (aI A e 0 ≠ 3 ∨ 24 < m_len A e + m) := fun z => z.elim (fun z => z h3) h24
      simp only [if_neg hc]
      unfold m_len at h24
      have hadd : sat (f_Outbox_addMessage e (I s) u v (I m) S) (fun S' => RSe (m_add A e s (decide (u ≠ 0)) v m) e S' ∧ frS e S S') := by
        have hO : S cOutbox_nextOrders e s = I (aN A e (13 + s)) := sr_orders (h.e he) hs
        unfold f_Outbox_addMessage
        rw [inbT hs (by decide), I_ix (by omega), hO]
        rcases hu with rfl | rfl
        · rw [if_pos rfl, if_pos rfl]
          exact S_addM (h.e he) he hs hm2 (by omega) hg (Or.inl rfl) (fun _ => rfl) (fun z => absurd z (by decide))
        · rw [if_neg (by decide)]
          exact S_addM (o := 0) (h.e he) he hs hm2 (by omega) hg (Or.inr rfl) (fun z => absurd z (by decide)) (fun _ => rfl)
      obtain ⟨ga, gb, gc, gd, ge⟩ := m_add_g A e s (decide (u ≠ 0)) v m
      have hbq := m_add_bO (s := s) (m := m) (lo := decide (u ≠ 0)) (v := v) hb hs (by omega) hg
      have hbpq : bP (m_add A e s (decide (u ≠ 0)) v m) := by
        intro r hr
        rw [ga]
        exact hbp r hr
      refine .bd hadd (fun S1 h1 => ?_)
      have hnow : S1 cL_now 0 0 = I (gN (m_add A e s (decide (u ≠ 0)) v m) 0) := by
        rw [h1.2 2 0 (by rw [ow_g (by decide)]; omega), gb]
        exact h.1.2
      rw [hnow]
      refine .bd (S_swm h1.1 he (by rw [m_add_I]; exact h3) hbpq hbq) (fun S2 h2 => .some ⟨rfl, ?_⟩)
      unfold m_send
      rw [sendAll_24 hbpq hbq]
      obtain ⟨x1, x2, x3⟩ := sendAll_g he 24 _ hbq hbpq
      exact RS_up h he ⟨h2.1, h1.2.trans h2.2⟩ (ge.trans (fr_sendAll 24 _)) (fun r hr => by rw [x1 r hr, ga]) (x2.trans gc) (x3.trans gd)
  · rw [if_neg h3]
    simp only [if_pos (Or.inl h3 : aI A e 0 ≠ 3 ∨ 24 < m_len A e + m)]
    exact .some ⟨rfl, h⟩
