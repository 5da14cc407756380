/-! What is asked of the reference. -/
theorem I_range {k : Int32} {b : Nat} (hb : b < 2 ^ 31) (h0 : ¬ k < 0) (h1 : ¬ I b < k) : ∃ j, j ≤ b ∧ k = I j := by
  have a0 : ¬ k.toInt < 0 := fun z => h0 (by rw [Int32.lt_iff_toInt_lt]; exact z)
  have a1 : ¬ (b : Int) < k.toInt := fun z => h1 (by rw [Int32.lt_iff_toInt_lt, I_toInt hb]; exact z)
  refine ⟨k.toInt.toNat, by omega, ?_⟩
  apply Int32.toInt_inj.mp
  rw [I_toInt (by omega)]
  omega
theorem two_eq {a : Int32} (h : ¬ f_M_isTwo a = 0) : ∃ e, e < 2 ∧ a = I e := by
  rw [T_two] at h
  by_cases z : a = 0 ∨ a = 1
  · rcases z with z | z
    · exact ⟨0, by decide, z⟩
    · exact ⟨1, by decide, z⟩
  · rw [if_neg z] at h
    exact absurd rfl h
theorem str_eq {a : Int32} (h : ¬ f_M_isStream a = 0) : ∃ s, s < 3 ∧ a = I s := by
  unfold f_M_isStream f_M_isStream_13 at h
  by_cases h0 : a < 0
  · rw [if_pos h0] at h; exact absurd rfl h
  · rw [if_neg h0] at h
    by_cases h1 : (2 : Int32) < a
    · rw [if_pos h1] at h; exact absurd rfl h
    · obtain ⟨j, hj, rfl⟩ := I_range (b := 2) (by decide) h0 h1
      exact ⟨j, by omega, rfl⟩
theorem str_I {s : Nat} (hs : s < 3) : ¬ f_M_isStream (I s) = 0 := by
  have : s = 0 ∨ s = 1 ∨ s = 2 := by omega
  rcases this with rfl | rfl | rfl <;> decide
def m_about (A : MA) (e k : Nat) : Int32 := match k with
  | 0 => aI A e 0
  | 1 => aI A e 1
  | 2 => aI A e 2
  | 3 => aI A e 3
  | 4 => I (m_len A e)
  | 5 => if aI A e 0 = 3 then I (aN A e 5) else 0
  | 6 => aI A e 10
  | 7 => if aI A e 0 = 3 then aI A e 4 else 0
  | 8 => if aI A e 0 = 3 then aI A e 5 else 0
  | _ => if aI A e 0 = 3 then I (m_ptu A e) else 0
theorem T_about {A : MA} {T : St} (h : RT A T) {e k : Nat} (he : e < 2) (hk : k ≤ 9) (hb : bO A e) : f_M_about 0 (I e) (I k) T = some (m_about A e k) := by
  unfold f_M_about
  rw [if_neg (two_I he), inbT he (by decide), I_ix (by omega), rt_state h he, rt_own h he, rt_other h he, rt_report h he, rt_given h he, rt_gone h he, rt_kept h he, rt_latest h he, rt_allErrors h he, rt_window h he, T_ptu h he hb.1, I_sub hb.2.1]
  have : k = 0 ∨ k = 1 ∨ k = 2 ∨ k = 3 ∨ k = 4 ∨ k = 5 ∨ k = 6 ∨ k = 7 ∨ k = 8 ∨ k = 9 := by omega
  rcases this with rfl | rfl | rfl | rfl | rfl | rfl | rfl | rfl | rfl | rfl
  · rfl
  · rfl
  · rfl
  · rfl
  · rfl
  · show (if aI A e 0 = 3 then some (I (aN A e 5)) else some 0) = some (if aI A e 0 = 3 then I (aN A e 5) else 0)
    split <;> rfl
  · rfl
  · show (if aI A e 0 = 3 then some (aI A e 4) else some 0) = some (if aI A e 0 = 3 then aI A e 4 else 0)
    split <;> rfl
  · show (if aI A e 0 = 3 then some (aI A e 5) else some 0) = some (if aI A e 0 = 3 then aI A e 5 else 0)
    split <;> rfl
  · show (if aI A e 0 = 3 then some (I (m_ptu A e)) else some 0) = some (if aI A e 0 = 3 then I (m_ptu A e) else 0)
    split <;> rfl
def m_pathq (A : MA) (e p k : Nat) : Int32 := if aI A e 0 = 3 then (match k with
  | 0 => I (aN A e (7 + p))
  | 1 => I (aN A e (9 + p))
  | 2 => aI A e (6 + p)
  | 3 => b01 (aB A e p)
  | 4 => I (cOut A e p)
  | 5 => b01 (aB A e (2 + p))
  | _ => b01 (aB A e (4 + p))) else 0
theorem b01_ite (b : Bool) : (if b01 b = 0 then some (0 : Int32) else some 1) = some (b01 b) := by cases b <;> rfl
theorem T_pathq {A : MA} {T : St} (h : RT A T) {e p k : Nat} (he : e < 2) (hp : p < 2) (hk : k ≤ 6) (hb : bO A e) : f_M_path 0 (I e) (I p) (I k) T = some (m_pathq A e p k) := by
  unfold f_M_path f_M_path_152 f_M_path_148 m_pathq
  rw [if_neg (two_I he), if_neg (two_I hp), show (2 : Int32) * I e + I p = I (2 * e + p) by rw [show (2 : Int32) = I 2 from rfl, I_mul, I_add], inbT he (by decide), inbT (show 2 * e + p < 4 by omega) (by decide), I_ix (by omega), I_ix (by omega), rt_state h he, rt_rate h he hp, rt_wait h he hp, rt_errors h he hp, rt_act h he hp, rt_runs h he hp, rt_beating h he hp, T_cOut h he hp hb, b01_nz, b01_nz, b01_nz, b01_ite, b01_ite, b01_ite]
  have : k = 0 ∨ k = 1 ∨ k = 2 ∨ k = 3 ∨ k = 4 ∨ k = 5 ∨ k = 6 := by omega
  by_cases h3 : aI A e 0 = 3
  · simp only [if_pos h3]
    rcases this with rfl | rfl | rfl | rfl | rfl | rfl | rfl <;> rfl
  · simp only [if_neg h3]
    rcases this with rfl | rfl | rfl | rfl | rfl | rfl | rfl <;> rfl
def m_wordq (A : MA) (e : Nat) (n : Int32) : Int32 := if I (aN A e 3) < n ∧ ¬ I (aN A e 4) < n then oSt A e n.toInt.toNat else 0
theorem T_wordq {A : MA} {T : St} (h : RT A T) {e : Nat} (he : e < 2) (hb : bO A e) {n : Int32} : f_M_word 0 (I e) n T = some (m_wordq A e n) := by
  obtain ⟨b1, b2, b3, b4, b5, b6, b7, b8⟩ := hb
  unfold f_M_word f_M_word_44 m_wordq
  rw [if_neg (two_I he), inbT he (by decide), if_pos rfl, I_ix (by omega), rt_gone h he, rt_given h he]
  by_cases h1 : I (aN A e 3) < n
  · rw [if_pos h1, if_pos rfl]
    by_cases h2 : I (aN A e 4) < n
    · rw [if_pos h2, if_neg (fun z => z.2 h2)]
    · rw [if_neg h2, if_pos (show I (aN A e 3) < n ∧ ¬ I (aN A e 4) < n from ⟨h1, h2⟩)]
      have h0 : ¬ n < 0 := fun z => by
        rw [Int32.lt_iff_toInt_lt] at z h1
        rw [I_toInt (by omega)] at h1
        have : (0 : Int32).toInt = 0 := rfl
        omega
      obtain ⟨j, hj, rfl⟩ := I_range (by omega) h0 h2
      have h3 : aN A e 3 < j := (I_lt (by omega) (by omega)).mp h1
      rw [show iRem (I j) 32 = I (j % 32) from I_rem (b := 32) (by omega) (by decide), show (32 : Int32) * I e + I (j % 32) = I (32 * e + j % 32) by rw [show (32 : Int32) = I 32 from rfl, I_mul, I_add], inbT (show 32 * e + j % 32 < 64 by omega) (by decide), if_pos rfl, I_ix (by omega), (rt_o h he h3 hj).1, I_toInt (by omega)]
      rfl
  · rw [if_neg h1, if_neg (fun z => h1 z.1)]
abbrev m_fil (A : MA) (e s : Nat) : List RM := (aR A e).filter (isS s)
theorem T_readyq {A : MA} {T : St} (h : RT A T) {e s : Nat} (he : e < 2) (hs : s < 3) : f_M_ready 0 (I e) (I s) T = some (I (m_fil A e s).length) := by
  unfold f_M_ready
  rw [if_neg (two_I he), if_neg (str_I hs), show (3 : Int32) * I e + I s = I (3 * e + s) by rw [show (3 : Int32) = I 3 from rfl, I_mul, I_add], inbT (show 3 * e + s < 6 by omega) (by decide), if_pos rfl, if_pos rfl, I_ix (by omega), rt_readies h he hs, rt_firstReady h he hs, rt_rdy h he hs, I_sub (by omega), Nat.add_sub_cancel_left]
def m_lenq (A : MA) (e s : Nat) : Int32 := match m_fil A e s with
  | [] => 0
  | q :: _ => I q.2.2
theorem T_lenq {A : MA} {T : St} (h : RT A T) {e s : Nat} (he : e < 2) (hs : s < 3) (hb : aN A e (23 + s) ≤ 512) : f_M_length 0 (I e) (I s) T = some (m_lenq A e s) := by
  have hr := rt_rdy h he hs
  unfold f_M_length m_lenq
  rw [if_neg (two_I he), if_neg (str_I hs), show (3 : Int32) * I e + I s = I (3 * e + s) by rw [show (3 : Int32) = I 3 from rfl, I_mul, I_add], inbT (show 3 * e + s < 6 by omega) (by decide), if_pos rfl, if_pos rfl, I_ix (by omega), rt_readies h he hs, rt_firstReady h he hs]
  cases hf : m_fil A e s with
  | nil =>
    have : aN A e (19 + s) = aN A e (23 + s) := by
      rw [hr, show (aR A e).filter (isS s) = [] from hf]
      rfl
    rw [if_pos (by rw [this])]
  | cons q l =>
    have hL : ((aR A e).filter (isS s)).length = l.length + 1 := by rw [show (aR A e).filter (isS s) = q :: l from hf]; rfl
    have hw := (rt_word h he hs (i := 0) (q := q) (by rw [show (aR A e).filter (isS s) = q :: l from hf]; rfl)).2
    rw [if_neg (fun z => by have := (I_eq (by omega) (by omega)).mp z; omega), if_pos rfl, show (512 : Int32) * I (3 * e + s) + I (aN A e (19 + s)) = I (512 * (3 * e + s) + aN A e (19 + s)) by rw [show (512 : Int32) = I 512 from rfl, I_mul, I_add], inbT (show 512 * (3 * e + s) + aN A e (19 + s) < 3072 by omega) (by decide), if_pos rfl, I_ix (by omega)]
    exact congrArg some hw
theorem find_fil (L : List RM) (s : Nat) : L.find? (isS s) = (L.filter (isS s)).head? := by
  induction L with
  | nil => rfl
  | cons q l ih =>
    cases h : isS s q with
    | true => rw [List.find?_cons_of_pos h, List.filter_cons_of_pos h]; rfl
    | false => rw [List.find?_cons_of_neg (by rw [h]; decide), List.filter_cons_of_neg (by rw [h]; decide), ih]
theorem erase_fil (L : List RM) (s s' : Nat) : (L.eraseP (isS s)).filter (isS s') = if s' = s then (L.filter (isS s')).tail else L.filter (isS s') := by
  induction L with
  | nil => split <;> rfl
  | cons q l ih =>
    cases h : isS s q with
    | true =>
      rw [List.eraseP_cons_of_pos h]
      by_cases hz : s' = s
      · subst hz
        rw [if_pos rfl, List.filter_cons_of_pos h]
        rfl
      · rw [if_neg hz]
        have : isS s' q = false := by
          have h1 : q.1 = s := Nat.eq_of_beq_eq_true h
          cases hy : isS s' q with
          | false => rfl
          | true =>
            have h2 : q.1 = s' := Nat.eq_of_beq_eq_true hy
            omega
        rw [List.filter_cons_of_neg (by rw [this]; decide)]
    | false =>
      rw [List.eraseP_cons_of_neg (by rw [h]; decide)]
      by_cases hz : s' = s
      · subst hz
        rw [if_pos rfl] at ih ⊢
        rw [List.filter_cons_of_neg (by rw [h]; decide), List.filter_cons_of_neg (by rw [h]; decide)]
        exact ih
      · rw [if_neg hz] at ih ⊢
        cases hy : isS s' q with
        | false => rw [List.filter_cons_of_neg (by rw [hy]; decide), List.filter_cons_of_neg (by rw [hy]; decide), ih]
        | true => rw [List.filter_cons_of_pos hy, List.filter_cons_of_pos hy, ih]
def m_popq (A : MA) (e s : Nat) : Int32 := match m_fil A e s with
  | [] => 0
  | q :: _ => q.2.1
theorem RT_pop {A : MA} {T : St} (h : RT A T) {e s : Nat} (he : e < 2) (hs : s < 3) {q : RM} {l : List RM} (hf : m_fil A e s = q :: l) : RT (sN (uR A (up1 (aR A) e ((aR A e).eraseP (isS s)))) e (19 + s) (aN A e (19 + s) + 1)) (up3 T 1052 0 (3 * e + s) (I (aN A e (19 + s) + 1))) := by
  obtain ⟨⟨h1, h2, h3⟩, r1, r2, r3, r4, r5, r6⟩ := h
  have q1 : ((1052, 3, 19) : Nat × Nat × Nat) ∈ tN := by decide
  have cI : ∀ q ∈ tI, q.1 ≠ 1052 := by decide
  have cB : ∀ q ∈ tB, q.1 ≠ 1052 := by decide
  have cc : ∀ x, x ≠ 1052 → up3 T 1052 0 (3 * e + s) (I (aN A e (19 + s) + 1)) x = T x := fun x a => up3_code a
  refine ⟨⟨famT_code h1 (fun q hq => cc _ (cI q hq)), ?_, famT_code h3 (fun q hq => cc _ (cB q hq))⟩, ?_⟩
  · show famT tN (fun x i => I (up2 (aN A) e (19 + s) (aN A e (19 + s) + 1) x i)) _
    rw [up2_I]
    exact famT_set tN_ok h2 q1 hs
  · refine ⟨rtG_code r1 (cc _ (by decide)) (cc _ (by decide)) (cc _ (by decide)) (cc _ (by decide)) (cc _ (by decide)), rtT_code r2 (cc _ (by decide)) (cc _ (by decide)) (cc _ (by decide)) (cc _ (by decide)), rtP_code r3 (cc _ (by decide)) (cc _ (by decide)), ?_, rtH_code r5 (fun x a b => cc x (by omega)), ?_⟩
    · exact rtO_code (rtO_an r4 (fun e' _ => ⟨up2_ne2 (by omega), up2_ne2 (by omega)⟩)) (fun x a b => cc x (by omega))
    · intro e' he' s' hs'
      obtain ⟨z1, z2⟩ := r6 e' he' s' hs'
      have n23 : aN (sN (uR A (up1 (aR A) e ((aR A e).eraseP (isS s)))) e (19 + s) (aN A e (19 + s) + 1)) e' (23 + s') = aN A e' (23 + s') := up2_ne2 (by omega)
      have n19 : aN (sN (uR A (up1 (aR A) e ((aR A e).eraseP (isS s)))) e (19 + s) (aN A e (19 + s) + 1)) e' (19 + s') = if e' = e ∧ s' = s then aN A e (19 + s) + 1 else aN A e' (19 + s') := by
        show up2 (aN A) e (19 + s) (aN A e (19 + s) + 1) e' (19 + s') = _
        unfold up2
        by_cases q : e' = e ∧ s' = s
        · rw [if_pos q, if_pos ⟨q.1, by omega⟩]
        · rw [if_neg q, if_neg (fun z => q ⟨z.1, by omega⟩)]
      rw [n19, n23, up3_code (by decide), up3_code (by decide)]
      by_cases qe : e' = e
      · subst qe
        have hu : aR (sN (uR A (up1 (aR A) e' ((aR A e').eraseP (isS s)))) e' (19 + s) (aN A e' (19 + s) + 1)) e' = (aR A e').eraseP (isS s) := up1_eq
        rw [hu, erase_fil]
        by_cases qs : s' = s
        · subst qs
          have hf' : (aR A e').filter (isS s') = q :: l := hf
          rw [if_pos ⟨rfl, rfl⟩, if_pos rfl]
          rw [hf'] at z1 z2 ⊢
          refine ⟨by rw [z1]; show _ + (l.length + 1) = _ + 1 + l.length; omega, fun i p hp => ?_⟩
          have := z2 (i + 1) p hp
          rw [show 512 * (3 * e' + s') + aN A e' (19 + s') + (i + 1) = 512 * (3 * e' + s') + (aN A e' (19 + s') + 1) + i by omega] at this
          exact this
        · rw [if_neg (fun z => qs z.2), if_neg qs]
          exact ⟨z1, z2⟩
      · have hu : aR (sN (uR A (up1 (aR A) e ((aR A e).eraseP (isS s)))) e (19 + s) (aN A e (19 + s) + 1)) e' = aR A e' := up1_ne qe
        rw [hu, if_neg (fun z => qe z.1)]
        exact ⟨z1, z2⟩
theorem T_read {A : MA} {T : St} (h : RT A T) {e s : Nat} (he : e < 2) (hs : s < 3) (hb : aN A e (23 + s) ≤ 512) : sat (f_M_read 0 (I e) (I s) T) (fun x => x.1 = m_popq A e s ∧ RT (m_pop A e s) x.2) := by
  have hr := rt_rdy h he hs
  have hRd : T cM_readies 0 (3 * e + s) = I (aN A e (23 + s)) := rt_readies h he hs
  have hFr : T cM_firstReady 0 (3 * e + s) = I (aN A e (19 + s)) := rt_firstReady h he hs
  have hK : T cM_kept 0 e = aI A e 10 := rt_kept h he
  unfold f_M_read m_popq m_pop
  rw [find_fil]
  rw [if_neg (two_I he), if_neg (str_I hs)]
  cases hf : m_fil A e s with
  | nil =>
    have hf' : (aR A e).filter (isS s) = [] := hf
    have : aN A e (19 + s) = aN A e (23 + s) := by
      rw [hr, hf']
      rfl
    rw [hf']
    simp (disch := omega) only [I_lit, I_mul, I_add, inbT, I_ix, if_true, hRd, hFr]
    rw [if_pos (by rw [this])]
    exact .some ⟨rfl, h⟩
  | cons q l =>
    have hf' : (aR A e).filter (isS s) = q :: l := hf
    have hL : ((aR A e).filter (isS s)).length = l.length + 1 := by rw [hf']; rfl
    obtain ⟨hw1, hw2⟩ := rt_word h he hs (i := 0) (q := q) (by rw [hf']; rfl)
    have hw1' : T cM_firstWord 0 (512 * (3 * e + s) + aN A e (19 + s)) = q.2.1 := hw1
    have hw2' : T cM_words 0 (512 * (3 * e + s) + aN A e (19 + s)) = I q.2.2 := hw2
    rw [hf']
    simp (disch := omega) only [I_lit, I_mul, I_add, inbT, I_ix, if_true, hRd, hFr, hw1', hw2', hK]
    rw [if_neg (fun z => by have := (I_eq (by omega) (by omega)).mp z; omega)]
    refine .some ⟨rfl, ?_⟩
    exact rs_kept (RT_pop h he hs hf)
