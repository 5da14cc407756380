/-! A SACK in the reference. Words one after the other. -/
def m_mapN (A : MA) (e b : Nat) (h : Nat → OW) : MA := uO A (fun x n => if x = e ∧ n ≤ b then h n else aO A x n)
theorem mapN_0 {A : MA} {T : St} (h : RT A T) (e : Nat) (f : Nat → OW) : RT (m_mapN A e (aN A e 3) f) T := by
  refine RT_O h (fun _ _ => rfl) (fun e' he' n h4 h5 => ?_)
  have := rt_o h he' h4 h5
  rw [if_neg (fun z => by
    obtain ⟨z1, z2⟩ := z
    subst z1
    omega)]
  exact this
theorem mapN_s {A : MA} {T T' : St} {e i : Nat} {f : Nat → OW} (h : RT (m_mapN A e (aN A e 3 + i) f) T) (he : e < 2) (hi : aN A e 3 + 1 + i ≤ aN A e 4) (hl : aN A e 4 ≤ aN A e 3 + 24) (c : ∀ x, (x < 1034 ∨ 1040 < x) → T' x = T x) (c2 : ∀ x, 1034 ≤ x → x ≤ 1040 → ∀ j, j ≠ 32 * e + (aN A e 3 + 1 + i) % 32 → T' x 0 j = T x 0 j) (ho : oT (f (aN A e 3 + 1 + i)) T' (32 * e + (aN A e 3 + 1 + i) % 32)) : RT (m_mapN A e (aN A e 3 + (i + 1)) f) T' := by
  have h2 := RT_oW h (T' := T') (n := aN A e 3 + 1 + i) (o := f (aN A e 3 + 1 + i)) he (show aN A e 3 < _ by omega) (show _ ≤ aN A e 4 by omega) hl c c2 ho
  have e2 : uO (m_mapN A e (aN A e 3 + i) f) (up2 (aO (m_mapN A e (aN A e 3 + i) f)) e (aN A e 3 + 1 + i) (f (aN A e 3 + 1 + i))) = m_mapN A e (aN A e 3 + (i + 1)) f := by
    unfold m_mapN
    show uO A _ = uO A _
    congr 1
    funext x n
    show up2 (fun x n => if x = e ∧ n ≤ aN A e 3 + i then f n else aO A x n) e (aN A e 3 + 1 + i) (f (aN A e 3 + 1 + i)) x n = _
    unfold up2
    by_cases hx : x = e ∧ n = aN A e 3 + 1 + i
    · obtain ⟨rfl, rfl⟩ := hx
      rw [if_pos ⟨rfl, rfl⟩, if_pos ⟨rfl, by omega⟩]
    · rw [if_neg hx]
      dsimp only
      by_cases hz : x = e ∧ n ≤ aN A e 3 + i
      · rw [if_pos hz, if_pos ⟨hz.1, by omega⟩]
      · rw [if_neg hz, if_neg (fun z => hz ⟨z.1, by
          have : n ≠ aN A e 3 + 1 + i := fun y => hx ⟨z.1, y⟩
          omega⟩)]
  rw [e2] at h2
  exact h2
theorem mapN_o {A : MA} {T : St} {e i : Nat} {f : Nat → OW} (h : RT (m_mapN A e (aN A e 3 + i) f) T) (he : e < 2) (hi : aN A e 3 + 1 + i ≤ aN A e 4) : oT (aO A e (aN A e 3 + 1 + i)) T (32 * e + (aN A e 3 + 1 + i) % 32) := by
  have ho := rt_o h he (n := aN A e 3 + 1 + i) (show aN A e 3 < _ by omega) (show _ ≤ aN A e 4 by omega)
  have e1 : aO (m_mapN A e (aN A e 3 + i) f) e (aN A e 3 + 1 + i) = aO A e (aN A e 3 + 1 + i) := if_neg (by omega)
  rw [e1] at ho
  exact ho
theorem mapN_end {A : MA} {T : St} {e b : Nat} {f : Nat → OW} {ao : Nat → Nat → OW} (h : RT (m_mapN A e b f) T) (hb : aN A e 4 ≤ b) (h1 : ∀ n, aN A e 3 < n → n ≤ aN A e 4 → f n = ao e n) (h2 : ∀ x, x ≠ e → ao x = aO A x) : RT (uO A ao) T := by
  have h3 : RT (uO (m_mapN A e b f) ao) T := by
    refine RT_O h (fun _ _ => rfl) (fun e' he' n h4 h5 => ?_)
    have := rt_o h he' h4 h5
    have e2 : aO (m_mapN A e b f) e' n = ao e' n := by
      show (if e' = e ∧ n ≤ b then f n else aO A e' n) = _
      by_cases hz : e' = e
      · subst hz
        have h5' : n ≤ aN A e' 4 := h5
        rw [if_pos ⟨rfl, by omega⟩]
        exact h1 n h4 h5
      · rw [if_neg (fun z => hz z.1), h2 e' hz]
    rw [e2] at this
    exact this
  exact h3
theorem m_ack_lt {c n : Nat} {g : Int32} (h : n ≤ c) : m_ack c g n = true := by
  unfold m_ack
  rw [decide_eq_true h]
  rfl
theorem m_ack_gt {c n : Nat} {g : Int32} (h : c < n) : m_ack c g n = (decide (n - c - 1 < 16) && bitS g (n - c - 1)) := by
  unfold m_ack
  rw [decide_eq_false (by omega)]
  rfl
def holdF (A : MA) (e c : Nat) (g : Int32) (n : Nat) : OW := if m_ack c g n = true ∧ isOM A e n = true then (oWd A e n, 4, oPa A e n, oSk A e n) else aO A e n
def goodF (A : MA) (e c : Nat) (g : Int32) (p n : Nat) : Bool := (m_ack c g n && isOM A e n) && Nat.beq (oPa A e n) p
theorem T_sack72 {A : MA} {T : St} (h : RT A T) {e c : Nat} (he : e < 2) (hb : bO A e) (hc : c < 4000) {g : Int32} (hg0 : T 1030 0 (2 * e) = 0) (hg1 : T 1030 0 (2 * e + 1) = 0) {P : St → Prop} (hP : ∀ T', RT (m_hold A e c g) T' → T' 1007 = T 1007 → (∀ p, p < 2 → T' 1030 0 (2 * e + p) = b01 (m_good A e c g p)) → sat (f_M_sack_201 0 (I e) (I c) g (I (aN A e 3 + 1), T')) P) : sat (f_M_sack_72 0 (I e) (I c) g (I (aN A e 3 + 1), T)) P := by
  obtain ⟨b1, b2, b3, b4, b5, b6, b7, b8⟩ := id hb
  unfold f_M_sack_72
  refine sat_upP (fun i x => x.1 = I (aN A e 3 + 1 + i) ∧ RT (m_mapN A e (aN A e 3 + i) (holdF A e c g)) x.2 ∧ x.2 1007 = T 1007 ∧ ∀ p, p < 2 → x.2 1030 0 (2 * e + p) = b01 (anyN (goodF A e c g p) (aN A e 3) i)) (m_len A e) (fun i x hi hx => ?_) (fun x hx => ?_) ⟨rfl, mapN_0 h e _, rfl, fun p hp => ?_⟩ (by unfold m_len; omega)
  · obtain ⟨d, T1⟩ := x
    obtain ⟨rfl, h1, h2, h3⟩ := hx
    replace h1 : RT (m_mapN A e (aN A e 3 + i) (holdF A e c g)) T1 := h1
    replace h2 : T1 1007 = T 1007 := h2
    replace h3 : ∀ p, p < 2 → T1 1030 0 (2 * e + p) = b01 (anyN (goodF A e c g p) (aN A e 3) i) := h3
    unfold m_len at hi
    have ho := mapN_o h1 he (by omega)
    have hpa := b5 (aN A e 3 + 1 + i)
    have hgv : T1 cM_given 0 e = I (aN A e 4) := rt_given h1 he
    have hn : aN A e 3 + i + 1 = aN A e 3 + 1 + i := by omega
    -- nothing happens to this word
    have same : (m_ack c g (aN A e 3 + 1 + i) && isOM A e (aN A e 3 + 1 + i)) = false → sat (f_M_sack_185 0 (I e) (I c) g (I (aN A e 3 + 1 + i)) T1) (Sum.elim (fun x => x.1 = I (aN A e 3 + 1 + (i + 1)) ∧ RT (m_mapN A e (aN A e 3 + (i + 1)) (holdF A e c g)) x.2 ∧ x.2 1007 = T 1007 ∧ ∀ p, p < 2 → x.2 1030 0 (2 * e + p) = b01 (anyN (goodF A e c g p) (aN A e 3) (i + 1))) (fun _ => False)) := by
      intro hz
      refine .some ⟨I_add _ 1, mapN_s h1 he (by omega) b3 (fun _ _ => rfl) (fun _ _ _ _ _ => rfl) ?_, h2, fun p hp => ?_⟩
      · have : holdF A e c g (aN A e 3 + 1 + i) = aO A e (aN A e 3 + 1 + i) := if_neg (fun z => by rw [z.1, z.2] at hz; cases hz)
        rw [this]
        exact ho
      · rw [anyN, hn]
        have : goodF A e c g p (aN A e 3 + 1 + i) = false := by
          unfold goodF
          rw [hz]
          rfl
        rw [this, Bool.or_false]
        exact h3 p hp
    -- the word is told
    have told : m_ack c g (aN A e 3 + 1 + i) = true → isOM A e (aN A e 3 + 1 + i) = true → sat (f_M_sack_160 0 (I e) (I c) g (I (aN A e 3 + 1 + i)) (I (32 * e + (aN A e 3 + 1 + i) % 32)) T1) (Sum.elim (fun x => x.1 = I (aN A e 3 + 1 + (i + 1)) ∧ RT (m_mapN A e (aN A e 3 + (i + 1)) (holdF A e c g)) x.2 ∧ x.2 1007 = T 1007 ∧ ∀ p, p < 2 → x.2 1030 0 (2 * e + p) = b01 (anyN (goodF A e c g p) (aN A e 3) (i + 1))) (fun _ => False)) := by
      intro z1 z2
      obtain ⟨o1, o2, o3, o4, o5, o6, o7⟩ := ho
      unfold f_M_sack_160 f_M_sack_185
      simp (disch := omega) only [I_lit, I_ix, inbT, if_true, I_add, I_mul, o6]
      have hpa' : (aO A e (aN A e 3 + 1 + i)).2.2.1 < 2 := hpa
      rw [inbT (show 2 * e + (aO A e (aN A e 3 + 1 + i)).2.2.1 < 4 by omega) (by decide), I_ix (by omega), if_pos rfl]
      have hx : RT (m_mapN A e (aN A e 3 + i) (holdF A e c g)) (up3 T1 1030 0 (2 * e + (aO A e (aN A e 3 + 1 + i)).2.2.1) (I 1)) := RT_x h1 (fun x _ hx => up3_code hx)
      refine .some ⟨rfl, mapN_s hx he (by omega) b3 (fun x hx => up3_code (show x ≠ 1034 by omega)) (fun x hx hy j hj => ?_) ?_, ?_, fun p hp => ?_⟩
      · dsimp only
        by_cases hx2 : x = 1034
        · subst hx2
          rw [up3_at, if_neg hj]
        · rw [up3_code hx2]
      · have : holdF A e c g (aN A e 3 + 1 + i) = (oWd A e (aN A e 3 + 1 + i), 4, oPa A e (aN A e 3 + 1 + i), oSk A e (aN A e 3 + 1 + i)) := if_pos ⟨z1, z2⟩
        rw [this]
        dsimp only
        exact ⟨by rw [up3_at, if_pos rfl]; rfl, by rw [up3_code (by decide), up3_code (by decide)]; exact o2, by rw [up3_code (by decide), up3_code (by decide)]; exact o3, by rw [up3_code (by decide), up3_code (by decide)]; exact o4, by rw [up3_code (by decide), up3_code (by decide)]; exact o5, by rw [up3_code (by decide), up3_code (by decide)]; exact o6, by rw [up3_code (by decide), up3_code (by decide)]; exact o7⟩
      · dsimp only
        rw [up3_code (by decide), up3_code (by decide)]
        exact h2
      · dsimp only
        rw [up3_code (show 1030 ≠ cM_word by decide), up3_at, anyN, hn]
        have : goodF A e c g p (aN A e 3 + 1 + i) = Nat.beq (oPa A e (aN A e 3 + 1 + i)) p := by
          unfold goodF
          rw [z1, z2]
          rfl
        rw [this]
        by_cases hp2 : p = oPa A e (aN A e 3 + 1 + i)
        · rw [if_pos (by rw [hp2]), ← hp2, Nat.beq_refl, Bool.or_true]
          rfl
        · rw [if_neg (fun z => hp2 (by have : (aO A e (aN A e 3 + 1 + i)).2.2.1 = oPa A e (aN A e 3 + 1 + i) := rfl; omega)), h3 p hp]
          have : Nat.beq (oPa A e (aN A e 3 + 1 + i)) p = false := by
            cases hz : Nat.beq (oPa A e (aN A e 3 + 1 + i)) p with
            | false => rfl
            | true => exact absurd (Nat.eq_of_beq_eq_true hz).symm hp2
          rw [this, Bool.or_false]
    have k131 : ∀ s0 : Int32, (s0 = 0 → m_ack c g (aN A e 3 + 1 + i) = false) → (s0 ≠ 0 → m_ack c g (aN A e 3 + 1 + i) = true) → sat (f_M_sack_131 0 (I e) (I c) g (I (aN A e 3 + 1 + i)) (I (32 * e + (aN A e 3 + 1 + i) % 32)) s0 T1) (Sum.elim (fun x => x.1 = I (aN A e 3 + 1 + (i + 1)) ∧ RT (m_mapN A e (aN A e 3 + (i + 1)) (holdF A e c g)) x.2 ∧ x.2 1007 = T 1007 ∧ ∀ p, p < 2 → x.2 1030 0 (2 * e + p) = b01 (anyN (goodF A e c g p) (aN A e 3) (i + 1))) (fun _ => False)) := by
      intro s0 q0 q1
      unfold f_M_sack_131
      by_cases hs : s0 = 0
      · rw [if_pos hs]
        exact same (by rw [q0 hs]; rfl)
      · have hA := q1 hs
        obtain ⟨o1, _⟩ := id ho
        rw [if_neg hs, inbT (show 32 * e + (aN A e 3 + 1 + i) % 32 < 64 by omega) (by decide), if_pos rfl, I_ix (by omega), o1]
        by_cases c2 : oSt A e (aN A e 3 + 1 + i) = 2
        · rw [if_pos c2]
          exact told hA (by unfold isOM; rw [decide_eq_true c2]; rfl)
        · rw [if_neg c2, if_pos rfl]
          by_cases c3 : oSt A e (aN A e 3 + 1 + i) = 3
          · rw [if_pos c3]
            exact told hA (by unfold isOM; rw [decide_eq_true c3, Bool.or_true])
          · rw [if_neg c3]
            exact same (by unfold isOM; rw [decide_eq_false c2, decide_eq_false c3, hA]; rfl)
    unfold f_M_sack_72_b f_M_sack_126 f_M_sack_130
    dsimp only
    rw [inbT he (by decide), if_pos rfl, I_ix (by omega), hgv, if_neg (fun z => by have := (I_lt (by omega) (by omega)).mp z; omega)]
    have er : iRem (I (aN A e 3 + 1 + i)) 32 = I ((aN A e 3 + 1 + i) % 32) := I_rem (b := 32) (by omega) (by decide)
    have em : (32 : Int32) * I e + I ((aN A e 3 + 1 + i) % 32) = I (32 * e + (aN A e 3 + 1 + i) % 32) := by rw [show (32 : Int32) = I 32 from rfl, I_mul, I_add]
    rw [er, em]
    by_cases hcn : c < aN A e 3 + 1 + i
    · rw [if_pos ((I_lt (by omega) (by omega)).mpr hcn)]
      have es : I (aN A e 3 + 1 + i) - I c - 1 = I (aN A e 3 + 1 + i - c - 1) := by
        rw [I_sub (by omega), show (1 : Int32) = I 1 from rfl, I_sub (by omega)]
      rw [es]
      have hk := m_ack_gt (g := g) hcn
      by_cases h16 : aN A e 3 + 1 + i - c - 1 < 16
      · rw [if_pos (show I (aN A e 3 + 1 + i - c - 1) < 16 from (I_lt (b := 16) (by omega) (by decide)).mpr h16)]
        rw [decide_eq_true h16, Bool.true_and] at hk
        by_cases hbit : iShr g (I (aN A e 3 + 1 + i - c - 1)) &&& 1 = 1
        · rw [if_pos hbit]
          exact k131 1 (fun z => absurd z (by decide)) (fun _ => by rw [hk]; exact decide_eq_true hbit)
        · rw [if_neg hbit]
          exact k131 0 (fun _ => by rw [hk]; exact decide_eq_false hbit) (fun z => absurd rfl z)
      · rw [if_neg (show ¬ I (aN A e 3 + 1 + i - c - 1) < 16 from fun z => h16 ((I_lt (b := 16) (by omega) (by decide)).mp z))]
        rw [decide_eq_false h16, Bool.false_and] at hk
        exact k131 0 (fun _ => hk) (fun z => absurd rfl z)
    · rw [if_neg (fun z => hcn ((I_lt (by omega) (by omega)).mp z))]
      exact k131 1 (fun z => absurd z (by decide)) (fun _ => m_ack_lt (by omega))
  · obtain ⟨d, T1⟩ := x
    obtain ⟨rfl, h1, h2, h3⟩ := hx
    replace h1 : RT (m_mapN A e (aN A e 3 + m_len A e) (holdF A e c g)) T1 := h1
    have hgv : T1 cM_given 0 e = I (aN A e 4) := rt_given h1 he
    have hgo : T1 cM_gone 0 e = I (aN A e 3) := rt_gone h1 he
    unfold f_M_sack_72_b
    have hml : aN A e 3 + m_len A e = aN A e 4 := by unfold m_len; omega
    dsimp only
    rw [inbT he (by decide), if_pos rfl, I_ix (by omega), hgv, if_pos ((I_lt (by omega) (by omega)).mpr (by omega)), if_pos rfl, hgo, show (1 : Int32) = I 1 from rfl, I_add]
    refine .exW (hP T1 (mapN_end h1 (by omega) (fun n _ _ => ?_) (fun x hx => ?_)) h2 h3)
    · unfold holdF
      by_cases hz : m_ack c g n = true ∧ isOM A e n = true
      · rw [if_pos hz, if_pos ⟨rfl, hz⟩]
      · rw [if_neg hz, if_neg (fun z => hz z.2)]
    · funext n
      exact if_neg (fun z => hx z.1)
  · have : p = 0 ∨ p = 1 := by omega
    rcases this with rfl | rfl
    · exact hg0
    · exact hg1
def zeroF (A : MA) (e n : Nat) : OW := (oWd A e n, 0, oPa A e n, oSk A e n)
theorem T_sack201 {A : MA} {T : St} (h : RT A T) {e c : Nat} (he : e < 2) (hb : bO A e) (hc0 : aN A e 3 ≤ c) (hc : c ≤ aN A e 4) {g : Int32} {P : St → Prop} (hP : ∀ T', RT (sN A e 3 c) T' → T' 1007 = T 1007 → T' 1030 = T 1030 → sat (f_M_sack_272 0 (I e) (I c) g (I (2 * e), up3 T' cM_window 0 e (T' 1007 0 4))) P) : sat (f_M_sack_201 0 (I e) (I c) g (I (aN A e 3 + 1), T)) P := by
  obtain ⟨b1, b2, b3, b4, b5, b6, b7, b8⟩ := id hb
  unfold f_M_sack_201
  refine sat_upP (fun i x => x.1 = I (aN A e 3 + 1 + i) ∧ RT (m_mapN A e (aN A e 3 + i) (zeroF A e)) x.2 ∧ x.2 1007 = T 1007 ∧ x.2 1030 = T 1030) (c - aN A e 3) (fun i x hi hx => ?_) (fun x hx => ?_) ⟨rfl, mapN_0 h e _, rfl, rfl⟩ (by omega)
  · obtain ⟨d, T1⟩ := x
    obtain ⟨rfl, h1, h2, h3⟩ := hx
    replace h1 : RT (m_mapN A e (aN A e 3 + i) (zeroF A e)) T1 := h1
    obtain ⟨o1, o2, o3, o4, o5, o6, o7⟩ := mapN_o h1 he (by omega)
    unfold f_M_sack_201_b
    simp (disch := omega) only [I_lit, I_ix, inbT, if_true, I_add, I_mul, I_rem, I_lt]
    rw [if_neg (by omega)]
    refine .some ⟨rfl, mapN_s h1 he (by omega) b3 (fun x hx => up3_code (show x ≠ 1034 by omega)) (fun x hx hy j hj => ?_) ?_, ?_, ?_⟩
    · dsimp only
      by_cases hx2 : x = 1034
      · subst hx2
        rw [up3_at, if_neg hj]
      · rw [up3_code hx2]
    · dsimp only
      exact ⟨by rw [up3_at, if_pos rfl]; rfl, by rw [up3_code (by decide)]; exact o2, by rw [up3_code (by decide)]; exact o3, by rw [up3_code (by decide)]; exact o4, by rw [up3_code (by decide)]; exact o5, by rw [up3_code (by decide)]; exact o6, by rw [up3_code (by decide)]; exact o7⟩
    · dsimp only
      rw [up3_code (by decide)]
      exact h2
    · dsimp only
      rw [up3_code (by decide)]
      exact h3
  · obtain ⟨d, T1⟩ := x
    obtain ⟨rfl, h1, h2, h3⟩ := hx
    replace h1 : RT (m_mapN A e (aN A e 3 + (c - aN A e 3)) (zeroF A e)) T1 := h1
    replace h2 : T1 1007 = T 1007 := h2
    replace h3 : T1 1030 = T 1030 := h3
    have hgo : T1 cM_gone 0 e = I (aN A e 3) := rt_gone h1 he
    have fin : RT (sN A e 3 c) (up3 T1 1031 0 e (I c)) := by
      have cell : ∀ e', e' < 2 → ∀ n, aN (sN A e 3 c) e' 3 < n → n ≤ aN (sN A e 3 c) e' 4 → aN A e' 3 < n ∧ n ≤ aN A e' 4 ∧ (e' = e → c < n) := by
        intro e' he' n q1 q2
        have z4 : aN (sN A e 3 c) e' 4 = aN A e' 4 := up2_ne2 (by decide)
        rw [z4] at q2
        by_cases hz : e' = e
        · subst hz
          have z3 : aN (sN A e' 3 c) e' 3 = c := up2_eq
          rw [z3] at q1
          exact ⟨by omega, q2, fun _ => q1⟩
        · have z3 : aN (sN A e 3 c) e' 3 = aN A e' 3 := up2_ne1 hz
          rw [z3] at q1
          exact ⟨q1, q2, fun z => absurd z hz⟩
      have hO : ∀ e', e' < 2 → ∀ n, aN (sN A e 3 c) e' 3 < n → n ≤ aN (sN A e 3 c) e' 4 → oT (aO A e' n) T1 (32 * e' + n % 32) := by
        intro e' he' n q1 q2
        obtain ⟨q3, q4, q5⟩ := cell e' he' n q1 q2
        have := rt_o h1 he' q3 q4
        have e2 : aO (m_mapN A e (aN A e 3 + (c - aN A e 3)) (zeroF A e)) e' n = aO A e' n := if_neg (fun z => by
          have := q5 z.1
          omega)
        rw [e2] at this
        exact this
      have r1 := RT_gone h1 he (a := c) (fun e' he' n q1 q2 => by
        obtain ⟨q3, q4, q5⟩ := cell e' he' n q1 q2
        exact rt_o h1 he' q3 q4)
      have r2 : RT (uO (sN (m_mapN A e (aN A e 3 + (c - aN A e 3)) (zeroF A e)) e 3 c) (aO A)) (up3 T1 1031 0 e (I c)) := by
        refine RT_O r1 (fun _ _ => rfl) (fun e' he' n q1 q2 => ?_)
        exact oT_code (hO e' he' n q1 q2) (fun x hx hy => up3_code (by omega))
      exact r2
    have hgoto : ∀ s2 : Int32, s2 = I c → sat (f_M_sack_254 0 (I e) (I c) g 0 (I e) s2 T1) P := by
      intro s2 hs
      subst hs
      unfold f_M_sack_254
      rw [inbT he (by decide), if_pos rfl, if_pos (by decide), if_pos rfl, I_ix (by omega), show ix (4 : Int32) = 4 by decide, show (2 : Int32) * I e = I (2 * e) from I_mul 2 e]
      have k := hP (up3 T1 1031 0 e (I c)) fin (by rw [up3_code (by decide)]; exact h2) (by rw [up3_code (by decide)]; exact h3)
      rw [up3_code (show 1007 ≠ 1031 by decide)] at k
      exact k
    unfold f_M_sack_201_b
    dsimp only
    rw [if_pos ((I_lt (by omega) (by omega)).mpr (by omega)), inbT he (by decide), if_pos rfl, I_ix (by omega), hgo]
    refine .exW ?_
    by_cases hlt : aN A e 3 < c
    · rw [if_pos ((I_lt (by omega) (by omega)).mpr hlt)]
      exact hgoto _ rfl
    · rw [if_neg (fun z => hlt ((I_lt (by omega) (by omega)).mp z)), if_pos rfl]
      exact hgoto _ (by rw [show aN A e 3 = c by omega])
