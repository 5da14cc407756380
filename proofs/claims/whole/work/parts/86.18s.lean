/-! A SACK in the class. -/
def gdS (S : St) (e : Nat) (b : Nat → Bool) : Prop := ∀ p, p < 2 → S 41 (2 * e + p) 0 = b01 (b p)
theorem anyN_split (f : Nat → Bool) (a m : Nat) : ∀ k, anyN f a (m + k) = (anyN f a m || anyN f (a + m) k)
  | 0 => by rw [Nat.add_zero]; exact (Bool.or_false _).symm
  | k + 1 => by
    rw [← Nat.add_assoc, anyN, anyN_split f a m k, anyN, Bool.or_assoc, show a + (m + k) + 1 = a + m + k + 1 by omega]
theorem anyN_cg {f g : Nat → Bool} {a : Nat} : ∀ k, (∀ n, a < n → n ≤ a + k → f n = g n) → anyN f a k = anyN g a k
  | 0 => fun _ => rfl
  | k + 1 => fun h => by rw [anyN, anyN, anyN_cg k (fun n p q => h n p (by omega)), h (a + k + 1) (by omega) (by omega)]
theorem anyN_0 {f : Nat → Bool} {a : Nat} : ∀ k, (∀ n, a < n → n ≤ a + k → f n = false) → anyN f a k = false
  | 0 => fun _ => rfl
  | k + 1 => fun h => by rw [anyN, anyN_0 k (fun n p q => h n p (by omega)), h (a + k + 1) (by omega) (by omega)]; rfl
/-- good is no part of what stands for the model -/
theorem ss_good {A : MA} {e p : Nat} {S : St} (h : RSe A e S) (hp : p < 2) {v : Int32} : RSe A e (up3 S 41 (2 * e + p) 0 v) :=
  ss_path h hp eqX.rfl rfl rfl rfl (fun q _ _ => eqP_f rfl rfl rfl) (fun x i hx => up3_ob (by omega)) (fun _ hps => pS_cg hps (eqP_f rfl rfl rfl) (fun x a b => up3_ob (by omega)))
theorem gd_set {S : St} {e p : Nat} {b : Nat → Bool} (hp : p < 2) (h : gdS S e b) {f : Bool} {v : Int32} (hv : v = b01 f) : gdS (up3 S 41 (2 * e + p) 0 v) e (fun q => if q = p then f else b q) := by
  intro q hq
  dsimp only
  by_cases hz : q = p
  · subst hz
    rw [up3_at, if_pos rfl, if_pos rfl]
    exact hv
  · rw [up3_ob (by omega), if_neg hz]
    exact h q hq
theorem ss_gone {A : MA} {e c : Nat} {S : St} (h : RSe A e S) (h1 : aN A e 3 ≤ c) (h2 : c ≤ aN A e 4) : RSe (sN A e 3 c) e (up3 S 23 e 0 (I (c + 1))) := by
  obtain ⟨⟨⟨⟨e1, e2, e3, e4⟩, ⟨e5, e6⟩, ⟨e7, e8, e9⟩, ⟨e10, e11⟩, e12⟩, g2⟩, ⟨g3, g4, g5⟩, ⟨g6, g7⟩, g8⟩ := h
  have nN : ∀ i, i ≠ 3 → aN (sN A e 3 c) e i = aN A e i := fun i hi => up2_ne2 hi
  have n3 : aN (sN A e 3 c) e 3 = c := up2_eq
  have cc : ∀ x i, (x ≠ 23 ∨ i ≠ e) → up3 S 23 e 0 (I (c + 1)) x i = S x i := fun x i hx => up3_ob hx
  refine ⟨⟨⟨⟨by rw [cc 7 e (by omega)]; exact e1, by rw [cc 8 e (by omega)]; exact e2, by rw [cc 9 e (by omega)]; exact e3, by rw [cc 13 e (by omega)]; exact e4⟩, ⟨by rw [cc 15 e (by omega), nN 0 (by decide)]; exact e5, by rw [cc 16 e (by omega), nN 1 (by decide)]; exact e6⟩, ⟨by rw [up3_at, if_pos rfl, n3], by rw [cc 24 e (by omega), nN 4 (by decide)]; exact e8, by rw [cc 21 e (by omega), nN 5 (by decide)]; exact e9⟩, ⟨fun s hs => by rw [cc 22 e (by omega), nN (13 + s) (by omega)]; exact e10 s hs, fun s hs => by rw [cc 19 e (by omega), nN (16 + s) (by omega)]; exact e11 s hs⟩, by rw [cc 20 e (by omega)]; exact e12⟩, fun k => uS_c (g2 k) (nN 2 (by decide)) rfl rfl (fun p _ => ⟨⟨nN _ (by omega), nN _ (by omega), nN _ (by omega)⟩, ⟨rfl, rfl⟩, rfl, rfl, rfl⟩) (cc 10 e (by omega)) (cc 14 e (by omega)) (cc 25 e (by omega)) (fun x q a b hq => cc x _ (by omega))⟩, ⟨fun m a b => ?_, hS_c g4 (nN 5 (by decide)) rfl rfl (cc 18 e (by omega)) (fun x k a b hk => cc x _ (by omega)), rS_c g5 (fun x a b => cc x e (by omega))⟩, ⟨rwS_cg g6 (cc 47 _ (by omega)) (cc 48 _ (by omega)) (fun x hx i p q => cc x i (by unfold pcd at hx; omega)), rwS_cg g7 (cc 47 _ (by omega)) (cc 48 _ (by omega)) (fun x hx i p q => cc x i (by unfold pcd at hx; omega))⟩, kS_c g8 rfl rfl rfl (cc 11 e (by omega)) (cc 12 e (by omega)) (cc 17 e (by omega)) (fun x a b => cc x 36 (by omega))⟩
  rw [n3] at a
  rw [nN 4 (by decide)] at b
  exact owS_cg (g3 m (by omega) b) (fun x p q => cc x _ (by omega)) (fun x p q => cc x _ (by omega))
def omF (A : MA) (e p n : Nat) : Bool := isOM A e n && Nat.beq (oPa A e n) p
theorem S_drop {A : MA} {e c : Nat} {S : St} (h : RSe A e S) (hb : bO A e) (h1 : aN A e 3 ≤ c) (h2 : c ≤ aN A e 4) (hg : gdS S e (fun _ => false)) : sat (f_End_dropUpTo e (I c) S) (fun S' => (RSe (sN A e 3 c) e S' ∧ frS e S S') ∧ gdS S' e (fun p => anyN (omF A e p) (aN A e 3) (c - aN A e 3))) := by
  obtain ⟨b1, b2, b3, b4, b5, b6, b7, b8⟩ := hb
  have hf : S cOutbox_firstNumber e 0 = I (aN A e 3 + 1) := sr_first h
  unfold f_End_dropUpTo f_End_dropUpTo_8
  rw [hf]
  refine sat_upP (fun i x => x.1 = I (aN A e 3 + 1 + i) ∧ RSe A e x.2 ∧ frS e S x.2 ∧ gdS x.2 e (fun p => anyN (omF A e p) (aN A e 3) i)) (c - aN A e 3) (fun i x hi hx => ?_) (fun x hx => ?_) ⟨rfl, h, frS.rfl, hg⟩ (by omega)
  · obtain ⟨d, S1⟩ := x
    obtain ⟨rfl, q1, q2, q3⟩ := hx
    replace q1 : RSe A e S1 := q1
    replace q2 : frS e S S1 := q2
    replace q3 : gdS S1 e (fun p => anyN (omF A e p) (aN A e 3) i) := q3
    obtain ⟨⟨o1, o2, o3⟩, o4⟩ := sr_o q1 (n := aN A e 3 + 1 + i) (by omega) (by omega)
    have o1' : S1 cSentWord_state (24 * e + (aN A e 3 + 1 + i) % 24) 0 = oSt A e (aN A e 3 + 1 + i) := o1
    have o2' : S1 cSentWord_lastPath (24 * e + (aN A e 3 + 1 + i) % 24) 0 = I (oPa A e (aN A e 3 + 1 + i)) := o2
    have hpa := b5 (aN A e 3 + 1 + i)
    have hn : aN A e 3 + i + 1 = aN A e 3 + 1 + i := by omega
    have told : isOM A e (aN A e 3 + 1 + i) = true → sat (f_End_dropUpTo_38 e (I c) (I (aN A e 3 + 1 + i)) (24 * e + (aN A e 3 + 1 + i) % 24) S1) (Sum.elim (fun x => x.1 = I (aN A e 3 + 1 + (i + 1)) ∧ RSe A e x.2 ∧ frS e S x.2 ∧ gdS x.2 e (fun p => anyN (omF A e p) (aN A e 3) (i + 1))) (fun _ => False)) := by
      intro hom
      unfold f_End_dropUpTo_38 f_End_dropUpTo_51
      rw [o2', inbT hpa (by decide), if_pos rfl, I_ix (by omega)]
      refine .some ⟨I_add _ 1, ss_good q1 hpa, q2.up (ow_p (by decide) hpa), ?_⟩
      have := gd_set (p := oPa A e (aN A e 3 + 1 + i)) (f := true) (v := 1) hpa q3 rfl
      intro q hq
      refine (this q hq).trans ?_
      dsimp only
      have hgo : omF A e q (aN A e 3 + 1 + i) = Nat.beq (oPa A e (aN A e 3 + 1 + i)) q := by
        unfold omF
        rw [hom, Bool.true_and]
      rw [anyN, hn, hgo]
      by_cases hz : q = oPa A e (aN A e 3 + 1 + i)
      · rw [if_pos hz, ← hz, Nat.beq_refl, Bool.or_true]
      · rw [if_neg hz]
        have : Nat.beq (oPa A e (aN A e 3 + 1 + i)) q = false := by
          cases hy : Nat.beq (oPa A e (aN A e 3 + 1 + i)) q with
          | false => rfl
          | true => exact absurd (Nat.eq_of_beq_eq_true hy).symm hz
        rw [this, Bool.or_false]
    unfold f_End_dropUpTo_8_b
    dsimp only
    rw [if_neg (fun z => by have := (I_lt (by omega) (by omega)).mp z; omega), S_at (by omega), bdS, o1']
    by_cases c1 : oSt A e (aN A e 3 + 1 + i) = 2
    · rw [if_pos c1]
      exact told (by unfold isOM; rw [decide_eq_true c1]; rfl)
    · rw [if_neg c1]
      by_cases c2 : oSt A e (aN A e 3 + 1 + i) = 3
      · rw [if_pos c2]
        exact told (by unfold isOM; rw [decide_eq_true c2, Bool.or_true])
      · rw [if_neg c2]
        refine .some ⟨I_add _ 1, q1, q2, fun q hq => (q3 q hq).trans ?_⟩
        dsimp only
        rw [anyN, hn]
        have : omF A e q (aN A e 3 + 1 + i) = false := by
          unfold omF isOM
          rw [decide_eq_false c1, decide_eq_false c2]
          rfl
        rw [this, Bool.or_false]
  · obtain ⟨d, S1⟩ := x
    obtain ⟨rfl, q1, q2, q3⟩ := hx
    replace q1 : RSe A e S1 := q1
    unfold f_End_dropUpTo_8_b
    dsimp only
    rw [if_pos ((I_lt (by omega) (by omega)).mpr (by omega)), show (1 : Int32) = I 1 from rfl, I_add]
    refine .exW (.some ⟨⟨ss_gone q1 h1 h2, q2.up (ow_e (by decide))⟩, fun p hp => ?_⟩)
    rw [up3_code (by decide)]
    exact q3 p hp
theorem S_sof {A : MA} {e n : Nat} {S : St} (h : RSe A e S) (hb : bO A e) (h1 : aN A e 3 < n) (hn : n < 5000) : f_Outbox_stateOf e (I n) S = some (if n ≤ aN A e 4 then oSt A e n else 0) := by
  obtain ⟨b1, b2, b3, b4, b5, b6, b7, b8⟩ := hb
  have hf : S cOutbox_firstNumber e 0 = I (aN A e 3 + 1) := sr_first h
  have hx : S cOutbox_nextNumber e 0 = I (aN A e 4 + 1) := sr_next h
  unfold f_Outbox_stateOf f_Outbox_has f_Outbox_has_20
  rw [hf, hx]
  have z1 : ¬ I n < I (aN A e 3 + 1) := fun z => by have := (I_lt (by omega) (by omega)).mp z; omega
  simp only [if_neg z1]
  by_cases h2 : n ≤ aN A e 4
  · have z2 : I n < I (aN A e 4 + 1) := (I_lt (by omega) (by omega)).mpr (by omega)
    simp only [if_pos z2]
    rw [if_neg (by decide), S_at (by omega), bdS, if_pos h2]
    exact congrArg some (sr_o h h1 h2).1.1
  · have z2 : ¬ I n < I (aN A e 4 + 1) := fun z => by have := (I_lt (by omega) (by omega)).mp z; omega
    simp only [if_neg z2]
    rw [if_pos trivial, if_neg h2]
theorem isSet_bit (g : Int32) (k : Nat) : (f_L_isSet g (I k) = 0) ↔ bitS g k = false := by
  unfold f_L_isSet bitS
  by_cases h : iShr g (I k) &&& 1 = 1
  · rw [if_pos h, decide_eq_true h]
    decide
  · rw [if_neg h, decide_eq_false h]
    decide
theorem S_hold {A : MA} {e : Nat} {g : Int32} {S : St} {b : Nat → Bool} (h : RSe A e S) (he : e < 2) (hb : bO A e) (hg : gdS S e b) : sat (f_End_holdGaps e g S) (fun S' => (RSe (uO A (fun x n => if x = e ∧ m_ack (aN A e 3) g n = true ∧ isOM A e n = true then (oWd A e n, 4, oPa A e n, oSk A e n) else aO A x n)) e S' ∧ frS e S S') ∧ gdS S' e (fun p => b p || anyN (goodF A e (aN A e 3) g p) (aN A e 3) (m_len A e))) := by
  obtain ⟨b1, b2, b3, b4, b5, b6, b7, b8⟩ := id hb
  unfold f_End_holdGaps f_End_holdGaps_2
  refine sat_upP (fun i x => x.1 = I i ∧ RSe (m_mapN A e (aN A e 3 + i) (holdF A e (aN A e 3) g)) e x.2 ∧ frS e S x.2 ∧ gdS x.2 e (fun p => b p || anyN (goodF A e (aN A e 3) g p) (aN A e 3) (min i (m_len A e)))) 16 (fun i x hi hx => ?_) (fun x hx => ?_) ⟨rfl, smap_0 h, frS.rfl, fun p hp => ?_⟩ (by decide)
  · obtain ⟨d, S1⟩ := x
    obtain ⟨rfl, q1, q2, q3⟩ := hx
    replace q1 : RSe (m_mapN A e (aN A e 3 + i) (holdF A e (aN A e 3) g)) e S1 := q1
    replace q2 : frS e S S1 := q2
    replace q3 : gdS S1 e (fun p => b p || anyN (goodF A e (aN A e 3) g p) (aN A e 3) (min i (m_len A e))) := q3
    have hfn : S1 cOutbox_firstNumber e 0 = I (aN A e 3 + 1) := by
      have z := sr_first q1
      exact z
    have hbm : bO (m_mapN A e (aN A e 3 + i) (holdF A e (aN A e 3) g)) e := by
      refine ⟨b1, b2, b3, b4, fun n => ?_, fun n => ?_, b7, b8⟩
      · show (if e = e ∧ n ≤ aN A e 3 + i then holdF A e (aN A e 3) g n else aO A e n).2.2.1 < 2
        unfold holdF
        split
        · split
          · exact b5 n
          · exact b5 n
        · exact b5 n
      · show (if e = e ∧ n ≤ aN A e 3 + i then holdF A e (aN A e 3) g n else aO A e n).2.2.2 ≤ 2
        unfold holdF
        split
        · split
          · exact b6 n
          · exact b6 n
        · exact b6 n
    have hsof := S_sof q1 hbm (n := aN A e 3 + 1 + i) (show aN A e 3 < _ by omega) (by omega)
    have hon : oSt (m_mapN A e (aN A e 3 + i) (holdF A e (aN A e 3) g)) e (aN A e 3 + 1 + i) = oSt A e (aN A e 3 + 1 + i) := by
      show (if e = e ∧ aN A e 3 + 1 + i ≤ aN A e 3 + i then holdF A e (aN A e 3) g (aN A e 3 + 1 + i) else aO A e (aN A e 3 + 1 + i)).2.1 = _
      rw [if_neg (by omega)]
    rw [hon] at hsof
    have h4n : aN (m_mapN A e (aN A e 3 + i) (holdF A e (aN A e 3) g)) e 4 = aN A e 4 := rfl
    rw [h4n] at hsof
    have hack : m_ack (aN A e 3) g (aN A e 3 + 1 + i) = bitS g i := by
      rw [m_ack_gt (by omega), show aN A e 3 + 1 + i - aN A e 3 - 1 = i by omega, decide_eq_true hi, Bool.true_and]
    -- nothing
    have same : (aN A e 4 < aN A e 3 + 1 + i ∨ (m_ack (aN A e 3) g (aN A e 3 + 1 + i) && isOM A e (aN A e 3 + 1 + i)) = false) → sat (f_End_holdGaps_78 e g (I i) S1) (Sum.elim (fun x => x.1 = I (i + 1) ∧ RSe (m_mapN A e (aN A e 3 + (i + 1)) (holdF A e (aN A e 3) g)) e x.2 ∧ frS e S x.2 ∧ gdS x.2 e (fun p => b p || anyN (goodF A e (aN A e 3) g p) (aN A e 3) (min (i + 1) (m_len A e)))) (fun _ => False)) := by
      intro hz
      refine .some ⟨I_add i 1, ?_, q2, fun p hp => ?_⟩
      · by_cases hin : aN A e 3 + 1 + i ≤ aN A e 4
        · have hz2 := hz.resolve_left (by omega)
          refine smap_s q1 he hin b3 (fun _ _ _ => rfl) ?_
          have : holdF A e (aN A e 3) g (aN A e 3 + 1 + i) = aO A e (aN A e 3 + 1 + i) := if_neg (fun z => by rw [z.1, z.2] at hz2; cases hz2)
          rw [this]
          exact smap_o q1 hin
        · have h3 := RSe_oeq (ao := aO (m_mapN A e (aN A e 3 + (i + 1)) (holdF A e (aN A e 3) g))) q1 (fun n p q => by
            have q' : n ≤ aN A e 4 := q
            have p' : aN A e 3 < n := p
            show (if e = e ∧ n ≤ aN A e 3 + (i + 1) then holdF A e (aN A e 3) g n else aO A e n) = if e = e ∧ n ≤ aN A e 3 + i then holdF A e (aN A e 3) g n else aO A e n
            rw [if_pos ⟨rfl, by omega⟩, if_pos ⟨rfl, by omega⟩])
          exact h3
      · dsimp only
        rw [q3 p hp]
        by_cases hin : aN A e 3 + 1 + i ≤ aN A e 4
        · have hz2 := hz.resolve_left (by omega)
          have m1 : min i (m_len A e) = i := by unfold m_len; omega
          have m2 : min (i + 1) (m_len A e) = i + 1 := by unfold m_len; omega
          rw [m1, m2, anyN, show aN A e 3 + i + 1 = aN A e 3 + 1 + i by omega]
          have : goodF A e (aN A e 3) g p (aN A e 3 + 1 + i) = false := by unfold goodF; rw [hz2]; rfl
          rw [this, Bool.or_false]
        · have m1 : min i (m_len A e) = m_len A e := by unfold m_len; omega
          have m2 : min (i + 1) (m_len A e) = m_len A e := by unfold m_len; omega
          rw [m1, m2]
    have told : aN A e 3 + 1 + i ≤ aN A e 4 → bitS g i = true → isOM A e (aN A e 3 + 1 + i) = true → sat (f_End_holdGaps_48 e g (I i) (I (aN A e 3 + 1 + i)) S1) (Sum.elim (fun x => x.1 = I (i + 1) ∧ RSe (m_mapN A e (aN A e 3 + (i + 1)) (holdF A e (aN A e 3) g)) e x.2 ∧ frS e S x.2 ∧ gdS x.2 e (fun p => b p || anyN (goodF A e (aN A e 3) g p) (aN A e 3) (min (i + 1) (m_len A e)))) (fun _ => False)) := by
      intro hin hbit hom
      obtain ⟨⟨o1, o2, o3⟩, o4⟩ := smap_o q1 hin
      have o2' : S1 cSentWord_lastPath (24 * e + (aN A e 3 + 1 + i) % 24) 0 = I (oPa A e (aN A e 3 + 1 + i)) := o2
      have hpa := b5 (aN A e 3 + 1 + i)
      unfold f_End_holdGaps_48 f_End_holdGaps_78
      rw [S_at (by omega), bdS, o2', inbT hpa (by decide), if_pos rfl, I_ix (by omega)]
      have hF : holdF A e (aN A e 3) g (aN A e 3 + 1 + i) = (oWd A e (aN A e 3 + 1 + i), 4, oPa A e (aN A e 3 + 1 + i), oSk A e (aN A e 3 + 1 + i)) := if_pos ⟨by rw [hack]; exact hbit, hom⟩
      have r1 : RSe (m_mapN A e (aN A e 3 + (i + 1)) (holdF A e (aN A e 3) g)) e (up3 S1 49 (24 * e + (aN A e 3 + 1 + i) % 24) 0 4) := by
        refine smap_s q1 he hin b3 (fun x k hx => up3_ob (by omega)) ?_
        rw [hF]
        exact ⟨⟨by rw [up3_at, if_pos rfl], by rw [up3_code (by decide)]; exact o2, by rw [up3_code (by decide)]; exact o3⟩, wrS_cg o4 (fun x a b => up3_ob (by omega))⟩
      refine .some ⟨I_add i 1, ss_good r1 hpa, (q2.up (ow_sw (by decide) (by omega))).up (ow_p (by decide) hpa), ?_⟩
      have q3' : gdS (up3 S1 49 (24 * e + (aN A e 3 + 1 + i) % 24) 0 4) e (fun p => b p || anyN (goodF A e (aN A e 3) g p) (aN A e 3) (min i (m_len A e))) := fun p hp => by
        rw [up3_code (by decide)]
        exact q3 p hp
      have := gd_set (p := oPa A e (aN A e 3 + 1 + i)) (f := true) (v := 1) hpa q3' rfl
      intro q hq
      refine (this q hq).trans ?_
      dsimp only
      have m1 : min i (m_len A e) = i := by unfold m_len; omega
      have m2 : min (i + 1) (m_len A e) = i + 1 := by unfold m_len; omega
      rw [m2, anyN, show aN A e 3 + i + 1 = aN A e 3 + 1 + i by omega]
      have hgf : goodF A e (aN A e 3) g q (aN A e 3 + 1 + i) = Nat.beq (oPa A e (aN A e 3 + 1 + i)) q := by
        unfold goodF
        rw [hack, hbit, hom]
        rfl
      rw [hgf]
      by_cases hz : q = oPa A e (aN A e 3 + 1 + i)
      · rw [if_pos hz, ← hz, Nat.beq_refl, Bool.or_true, Bool.or_true]
      · rw [if_neg hz]
        have : Nat.beq (oPa A e (aN A e 3 + 1 + i)) q = false := by
          cases hy : Nat.beq (oPa A e (aN A e 3 + 1 + i)) q with
          | false => rfl
          | true => exact absurd (Nat.eq_of_beq_eq_true hy).symm hz
        rw [this, Bool.or_false]
        rw [m1]
    unfold f_End_holdGaps_2_b
    dsimp only
    rw [if_pos (show I i < 16 from (I_lt (b := 16) (by omega) (by decide)).mpr hi), hfn, I_add, hsof, bdS]
    cases hbit : bitS g i with
    | false =>
      rw [if_pos ((isSet_bit g i).mpr hbit)]
      exact same (Or.inr (by rw [hack, hbit]; rfl))
    | true =>
      rw [if_neg (fun z => by rw [(isSet_bit g i).mp z] at hbit; cases hbit)]
      by_cases hin : aN A e 3 + 1 + i ≤ aN A e 4
      · rw [if_pos hin]
        by_cases c1 : oSt A e (aN A e 3 + 1 + i) = 2
        · rw [if_pos c1]
          exact told hin hbit (by unfold isOM; rw [decide_eq_true c1]; rfl)
        · rw [if_neg c1]
          by_cases c2 : oSt A e (aN A e 3 + 1 + i) = 3
          · rw [if_pos c2]
            exact told hin hbit (by unfold isOM; rw [decide_eq_true c2, Bool.or_true])
          · rw [if_neg c2]
            exact same (Or.inr (by unfold isOM; rw [decide_eq_false c1, decide_eq_false c2, Bool.or_self, Bool.and_false]))
      · rw [if_neg hin, if_neg (by decide), if_neg (by decide)]
        exact same (Or.inl (by omega))
  · obtain ⟨d, S1⟩ := x
    obtain ⟨rfl, q1, q2, q3⟩ := hx
    replace q1 : RSe (m_mapN A e (aN A e 3 + 16) (holdF A e (aN A e 3) g)) e S1 := q1
    unfold f_End_holdGaps_2_b
    dsimp only
    rw [if_neg (by decide)]
    refine .exW (.some ⟨⟨?_, q2⟩, fun p hp => ?_⟩)
    · have h3 := RSe_oeq (ao := (fun x n => if x = e ∧ m_ack (aN A e 3) g n = true ∧ isOM A e n = true then (oWd A e n, 4, oPa A e n, oSk A e n) else aO A x n)) q1 (fun n p q => by
        show _ = if e = e ∧ n ≤ aN A e 3 + 16 then holdF A e (aN A e 3) g n else aO A e n
        by_cases hz : n ≤ aN A e 3 + 16
        · rw [if_pos (show e = e ∧ n ≤ aN A e 3 + 16 from ⟨rfl, hz⟩)]
          unfold holdF
          by_cases hy : m_ack (aN A e 3) g n = true ∧ isOM A e n = true
          · rw [if_pos hy, if_pos ⟨rfl, hy⟩]
          · rw [if_neg hy, if_neg (fun z => hy z.2)]
        · rw [if_neg (show ¬ (e = e ∧ n ≤ aN A e 3 + 16) from fun z => hz z.2), if_neg (fun z => by
            have := z.2.1
            rw [m_ack_gt (by omega), decide_eq_false (by omega)] at this
            cases this)])
      exact h3
    · have := q3 p hp
      dsimp only at this ⊢
      rw [this]
      by_cases hml : m_len A e ≤ 16
      · rw [Nat.min_eq_right hml]
      · rw [Nat.min_eq_left (by omega)]
        have := anyN_split (goodF A e (aN A e 3) g p) (aN A e 3) 16 (m_len A e - 16)
        rw [show 16 + (m_len A e - 16) = m_len A e by omega] at this
        rw [this, anyN_0 (f := goodF A e (aN A e 3) g p) (a := aN A e 3 + 16) (m_len A e - 16) (fun n p' q' => by
          unfold goodF
          rw [m_ack_gt (by omega), decide_eq_false (by omega)]
          rfl), Bool.or_false]
  · dsimp only
    rw [hg p hp, Nat.zero_min]
    exact congrArg b01 (Bool.or_false _).symm
