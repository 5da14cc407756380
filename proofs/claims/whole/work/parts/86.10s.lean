theorem ss_state {A : MA} {e : Nat} {S : St} (h : RSe A e S) {v : Int32} (hv : v ≠ 3) : RSe (sI A e 0 v) e (up3 S 7 e 0 v) := by
  refine RSx_E h (fun z => absurd (up2_eq.symm.trans z) hv) (fun i a b => up2_ne2 (by omega)) (fun i a b => rfl) ⟨rfl, rfl, rfl, rfl, rfl⟩ rfl ⟨rfl, rfl, rfl⟩ (fun x i hx => up3_ob (by unfold ecd at hx; omega)) ?_
  rintro ⟨⟨e1, e2, e3, e4⟩, ⟨e5, e6⟩, ⟨e7, e8, e9⟩, ⟨e10, e11⟩, e12⟩
  have cc : ∀ x, x ≠ 7 → up3 S 7 e 0 v x = S x := fun x a => up3_code a
  exact ⟨⟨(by rw [up3_at, if_pos rfl]; exact up2_eq.symm), (by rw [cc 8 (by decide), show aI (sI A e 0 v) e 1 = aI A e 1 from up2_ne2 (by decide)]; exact e2), (by rw [cc 9 (by decide), show aI (sI A e 0 v) e 2 = aI A e 2 from up2_ne2 (by decide)]; exact e3), (by rw [cc 13 (by decide), show aI (sI A e 0 v) e 3 = aI A e 3 from up2_ne2 (by decide)]; exact e4)⟩, ⟨(by rw [cc 15 (by decide)]; exact e5), (by rw [cc 16 (by decide)]; exact e6)⟩, ⟨(by rw [cc 23 (by decide)]; exact e7), (by rw [cc 24 (by decide)]; exact e8), (by rw [cc 21 (by decide)]; exact e9)⟩, ⟨(fun s hs => by rw [cc 22 (by decide)]; exact e10 s hs), (fun s hs => by rw [cc 19 (by decide)]; exact e11 s hs)⟩, (by rw [cc 20 (by decide), show aI (sI A e 0 v) e 10 = aI A e 10 from up2_ne2 (by decide)]; exact e12)⟩
theorem ss_own {A : MA} {e : Nat} {S : St} (h : RSe A e S) {v : Int32} : RSe (sI A e 1 v) e (up3 S 8 e 0 v) := by
  refine RSx_E h (fun z => by rw [show aI (sI A e 1 v) e 0 = aI A e 0 from up2_ne2 (by decide)] at z; exact z) (fun i a b => up2_ne2 (by omega)) (fun i a b => rfl) ⟨rfl, rfl, rfl, rfl, rfl⟩ rfl ⟨rfl, rfl, rfl⟩ (fun x i hx => up3_ob (by unfold ecd at hx; omega)) ?_
  rintro ⟨⟨e1, e2, e3, e4⟩, ⟨e5, e6⟩, ⟨e7, e8, e9⟩, ⟨e10, e11⟩, e12⟩
  have cc : ∀ x, x ≠ 8 → up3 S 8 e 0 v x = S x := fun x a => up3_code a
  exact ⟨⟨(by rw [cc 7 (by decide), show aI (sI A e 1 v) e 0 = aI A e 0 from up2_ne2 (by decide)]; exact e1), (by rw [up3_at, if_pos rfl]; exact up2_eq.symm), (by rw [cc 9 (by decide), show aI (sI A e 1 v) e 2 = aI A e 2 from up2_ne2 (by decide)]; exact e3), (by rw [cc 13 (by decide), show aI (sI A e 1 v) e 3 = aI A e 3 from up2_ne2 (by decide)]; exact e4)⟩, ⟨(by rw [cc 15 (by decide)]; exact e5), (by rw [cc 16 (by decide)]; exact e6)⟩, ⟨(by rw [cc 23 (by decide)]; exact e7), (by rw [cc 24 (by decide)]; exact e8), (by rw [cc 21 (by decide)]; exact e9)⟩, ⟨(fun s hs => by rw [cc 22 (by decide)]; exact e10 s hs), (fun s hs => by rw [cc 19 (by decide)]; exact e11 s hs)⟩, (by rw [cc 20 (by decide), show aI (sI A e 1 v) e 10 = aI A e 10 from up2_ne2 (by decide)]; exact e12)⟩
theorem ss_other {A : MA} {e : Nat} {S : St} (h : RSe A e S) {v : Int32} : RSe (sI A e 2 v) e (up3 S 9 e 0 v) := by
  refine RSx_E h (fun z => by rw [show aI (sI A e 2 v) e 0 = aI A e 0 from up2_ne2 (by decide)] at z; exact z) (fun i a b => up2_ne2 (by omega)) (fun i a b => rfl) ⟨rfl, rfl, rfl, rfl, rfl⟩ rfl ⟨rfl, rfl, rfl⟩ (fun x i hx => up3_ob (by unfold ecd at hx; omega)) ?_
  rintro ⟨⟨e1, e2, e3, e4⟩, ⟨e5, e6⟩, ⟨e7, e8, e9⟩, ⟨e10, e11⟩, e12⟩
  have cc : ∀ x, x ≠ 9 → up3 S 9 e 0 v x = S x := fun x a => up3_code a
  exact ⟨⟨(by rw [cc 7 (by decide), show aI (sI A e 2 v) e 0 = aI A e 0 from up2_ne2 (by decide)]; exact e1), (by rw [cc 8 (by decide), show aI (sI A e 2 v) e 1 = aI A e 1 from up2_ne2 (by decide)]; exact e2), (by rw [up3_at, if_pos rfl]; exact up2_eq.symm), (by rw [cc 13 (by decide), show aI (sI A e 2 v) e 3 = aI A e 3 from up2_ne2 (by decide)]; exact e4)⟩, ⟨(by rw [cc 15 (by decide)]; exact e5), (by rw [cc 16 (by decide)]; exact e6)⟩, ⟨(by rw [cc 23 (by decide)]; exact e7), (by rw [cc 24 (by decide)]; exact e8), (by rw [cc 21 (by decide)]; exact e9)⟩, ⟨(fun s hs => by rw [cc 22 (by decide)]; exact e10 s hs), (fun s hs => by rw [cc 19 (by decide)]; exact e11 s hs)⟩, (by rw [cc 20 (by decide), show aI (sI A e 2 v) e 10 = aI A e 10 from up2_ne2 (by decide)]; exact e12)⟩
theorem ss_tries {A : MA} {e : Nat} {S : St} (h : RSe A e S) {v : Nat} : RSe (sN A e 0 v) e (up3 S 15 e 0 (I v)) := by
  refine RSx_E h (fun z => z) (fun i a b => rfl) (fun i a b => up2_ne2 (by omega)) ⟨rfl, rfl, rfl, rfl, rfl⟩ rfl ⟨rfl, rfl, rfl⟩ (fun x i hx => up3_ob (by unfold ecd at hx; omega)) ?_
  rintro ⟨⟨e1, e2, e3, e4⟩, ⟨e5, e6⟩, ⟨e7, e8, e9⟩, ⟨e10, e11⟩, e12⟩
  have cc : ∀ x, x ≠ 15 → up3 S 15 e 0 (I v) x = S x := fun x a => up3_code a
  exact ⟨⟨(by rw [cc 7 (by decide)]; exact e1), (by rw [cc 8 (by decide)]; exact e2), (by rw [cc 9 (by decide)]; exact e3), (by rw [cc 13 (by decide)]; exact e4)⟩, ⟨(by rw [up3_at, if_pos rfl]; exact congrArg I up2_eq.symm), (by rw [cc 16 (by decide), show aN (sN A e 0 v) e 1 = aN A e 1 from up2_ne2 (by decide)]; exact e6)⟩, ⟨(by rw [cc 23 (by decide), show aN (sN A e 0 v) e 3 = aN A e 3 from up2_ne2 (by decide)]; exact e7), (by rw [cc 24 (by decide), show aN (sN A e 0 v) e 4 = aN A e 4 from up2_ne2 (by decide)]; exact e8), (by rw [cc 21 (by decide), show aN (sN A e 0 v) e 5 = aN A e 5 from up2_ne2 (by decide)]; exact e9)⟩, ⟨(fun s hs => by rw [cc 22 (by decide), show aN (sN A e 0 v) e (13 + s) = aN A e (13 + s) from up2_ne2 (by omega)]; exact e10 s hs), (fun s hs => by rw [cc 19 (by decide), show aN (sN A e 0 v) e (16 + s) = aN A e (16 + s) from up2_ne2 (by omega)]; exact e11 s hs)⟩, (by rw [cc 20 (by decide)]; exact e12)⟩
theorem ss_due {A : MA} {e : Nat} {S : St} (h : RSe A e S) {v : Nat} : RSe (sN A e 1 v) e (up3 S 16 e 0 (I v)) := by
  refine RSx_E h (fun z => z) (fun i a b => rfl) (fun i a b => up2_ne2 (by omega)) ⟨rfl, rfl, rfl, rfl, rfl⟩ rfl ⟨rfl, rfl, rfl⟩ (fun x i hx => up3_ob (by unfold ecd at hx; omega)) ?_
  rintro ⟨⟨e1, e2, e3, e4⟩, ⟨e5, e6⟩, ⟨e7, e8, e9⟩, ⟨e10, e11⟩, e12⟩
  have cc : ∀ x, x ≠ 16 → up3 S 16 e 0 (I v) x = S x := fun x a => up3_code a
  exact ⟨⟨(by rw [cc 7 (by decide)]; exact e1), (by rw [cc 8 (by decide)]; exact e2), (by rw [cc 9 (by decide)]; exact e3), (by rw [cc 13 (by decide)]; exact e4)⟩, ⟨(by rw [cc 15 (by decide), show aN (sN A e 1 v) e 0 = aN A e 0 from up2_ne2 (by decide)]; exact e5), (by rw [up3_at, if_pos rfl]; exact congrArg I up2_eq.symm)⟩, ⟨(by rw [cc 23 (by decide), show aN (sN A e 1 v) e 3 = aN A e 3 from up2_ne2 (by decide)]; exact e7), (by rw [cc 24 (by decide), show aN (sN A e 1 v) e 4 = aN A e 4 from up2_ne2 (by decide)]; exact e8), (by rw [cc 21 (by decide), show aN (sN A e 1 v) e 5 = aN A e 5 from up2_ne2 (by decide)]; exact e9)⟩, ⟨(fun s hs => by rw [cc 22 (by decide), show aN (sN A e 1 v) e (13 + s) = aN A e (13 + s) from up2_ne2 (by omega)]; exact e10 s hs), (fun s hs => by rw [cc 19 (by decide), show aN (sN A e 1 v) e (16 + s) = aN A e (16 + s) from up2_ne2 (by omega)]; exact e11 s hs)⟩, (by rw [cc 20 (by decide)]; exact e12)⟩
theorem ss_ck {A : MA} {S : St} (h : RSe A 0 S) {o : Nat} (ho : o < 36) {q : Nat → Int32} (hq : ckS (fun k => q (3 + k)) S o) : RSe (m_ck A q) 0 (f_Cookie_copyFrom 36 o S) := by
  obtain ⟨⟨h1, h2⟩, ⟨h3, h4, h5⟩, ⟨h6, h7⟩, ⟨k1, k2, k3, k4⟩⟩ := h
  have cc : ∀ x i, (x < 3 ∨ 6 < x ∨ i ≠ 36) → f_Cookie_copyFrom 36 o S x i = S x i := fun x i hx => ccp_fr hx
  refine ⟨⟨eS_c h1 (eqE_f rfl rfl rfl) (fun x hx => cc x 0 (by omega)), fun k => uS_c (h2 k) rfl rfl rfl (fun p _ => eqP_f rfl rfl rfl) (cc 10 0 (by omega)) (cc 14 0 (by omega)) (cc 25 0 (by omega)) (fun x q a b hq => cc x _ (by omega))⟩, ⟨oS_c h3 rfl rfl rfl (fun x k a b hk => cc x _ (by omega)) (fun x k a b hk => cc x _ (by omega)), hS_c h4 rfl rfl rfl (cc 18 0 (by omega)) (fun x k a b hk => cc x _ (by omega)), rS_c h5 (fun x a b => cc x 0 (by omega))⟩, ⟨rwS_cg h6 (cc 47 _ (by omega)) (cc 48 _ (by omega)) (fun x hx i p q => cc x i (by omega)), rwS_cg h7 (cc 47 _ (by omega)) (cc 48 _ (by omega)) (fun x hx i p q => cc x i (by omega))⟩, ⟨by rw [cc 11 0 (by omega)]; exact k1, by rw [cc 12 0 (by omega)]; exact k2, by rw [cc 17 0 (by omega)]; exact k3, fun _ => ?_⟩⟩
  have := ccp_at (u := 36) hq
  exact this
theorem mix_eq (a b : Int32) : f_L_mixIn a b = f_M_mixed a b := rfl
theorem S_tagFor {A : MA} {S : St} (h : S 1 0 0 = gI A 4) {c : Int32} : f_L_serverTagFor 0 c S = kTag (gI A 4) c := by
  have h' : S cL_key 0 0 = gI A 4 := h
  unfold f_L_serverTagFor kTag
  rw [h']
  rfl
theorem S_seal {A : MA} {S : St} (h : S 1 0 0 = gI A 4) {c s t : Int32} : f_L_sealOf 0 c s t S = kSeal (gI A 4) c s t := by
  have h' : S cL_key 0 0 = gI A 4 := h
  unfold f_L_sealOf kSeal
  rw [h']
  rfl
theorem cset_fr {S1 : St} {u x i : Nat} {a b c d : Int32} (hx : x < 3 ∨ 6 < x ∨ i ≠ u) : f_Cookie_set u a b c d S1 x i = S1 x i := by
  unfold f_Cookie_set
  rw [up3_ob (c := 6) (by omega), up3_ob (c := 5) (by omega), up3_ob (c := 4) (by omega), up3_ob (c := 3) (by omega)]
theorem cset_at {S1 : St} {u : Nat} {q : Nat → Int32} : ckS q (f_Cookie_set u (q 0) (q 1) (q 2) (q 3) S1) u := by
  unfold f_Cookie_set
  refine ⟨?_, ?_, ?_, ?_⟩
  · rw [up3_code (by decide), up3_code (by decide), up3_code (by decide), up3_at, if_pos rfl]
  · rw [up3_code (by decide), up3_code (by decide), up3_at, if_pos rfl]
  · rw [up3_code (by decide), up3_at, if_pos rfl]
  · rw [up3_at, if_pos rfl]
/-- a packet of one of the first kinds that has been filled -/
theorem pk_ck {S : St} {o : Nat} {q : Pkt} (hk : q.1 1 = 0 ∨ q.1 1 = 1 ∨ q.1 1 = 2 ∨ q.1 1 = 8) (h1 : S 26 o 0 = q.1 1) (h2 : S 27 o 0 = q.1 0) (h3 : q.1 1 = 0 ∨ q.1 1 = 1 → S 28 o 0 = q.1 2) (h4 : q.1 1 = 1 ∨ q.1 1 = 2 → ckS (fun k => q.1 (3 + k)) S o) : pkS q S o := by
  refine ⟨h1, h2, h3, h4, fun z => ?_, fun z => ?_, fun z => ?_⟩
  · rw [z] at hk; exact absurd hk (by decide)
  · rw [z] at hk; exact absurd hk (by decide)
  · rcases z with z | z
    · rw [z] at hk; exact absurd hk (by decide)
    · rw [z] at hk; exact absurd hk (by decide)
theorem S_init {A : MA} {S : St} (h : RS A S) (hb : bP A) {p : Nat} (hp : p < 2) {t : Int32} (ht : t ≠ 0) : sat (f_L_answerInit 0 (I p) t S) (fun S' => RS (m_init A p t) S' ∧ frS 1 S S') := by
  unfold f_L_answerInit
  rw [if_neg ht, if_pos (by decide), show ix (1 : Int32) = 1 by decide]
  obtain ⟨o, S1, e1, ⟨o1, o2⟩, e2, e3, e4, e5, e6⟩ := S_post (h.e (e := 1) (by decide)) (by decide) hp (hb _ (by omega)) (k := 1)
  have hkey : S1 1 0 0 = gI A 4 := by rw [e5 1 0 (by decide) (by decide) (by decide)]; exact h.1.1
  have hnow : S1 cL_now 0 0 = I (gN A 0) := by rw [e5 2 0 (by decide) (by decide) (by decide)]; exact h.1.2
  rw [e1]
  show sat (some _) _
  have hkey2 : (up3 (up3 S1 cPacket_tag o 0 t) cPacket_newTag o 0 (kTag (gI A 4) t)) 1 0 0 = gI A 4 := by rw [up3_code (by decide), up3_code (by decide)]; exact hkey
  rw [S_tagFor h.1.1, hnow, S_seal hkey2]
  have r := e6 (pkt t 1 (kTag (gI A 4) t) t (kTag (gI A 4) t) (I (gN A 0)) (kSeal (gI A 4) t (kTag (gI A 4) t) (I (gN A 0)))) (f_Cookie_set o t (kTag (gI A 4) t) (I (gN A 0)) (kSeal (gI A 4) t (kTag (gI A 4) t) (I (gN A 0))) (up3 (up3 S1 27 o 0 t) 28 o 0 (kTag (gI A 4) t))) (fun x i hx => by
    unfold pcd at hx
    rw [cset_fr (by omega), up3_ob (by omega), up3_ob (by omega)]) (fun _ => pk_ck (Or.inr (Or.inl rfl)) (by rw [cset_fr (by omega), up3_code (by decide), up3_code (by decide)]; exact e2) (by rw [cset_fr (by omega), up3_code (by decide), up3_at, if_pos rfl]; rfl) (fun _ => by rw [cset_fr (by omega), up3_at, if_pos rfl]; rfl) (fun _ => cset_at (q := fun k => (pkt t 1 (kTag (gI A 4) t) t (kTag (gI A 4) t) (I (gN A 0)) (kSeal (gI A 4) t (kTag (gI A 4) t) (I (gN A 0)))).1 (3 + k))))
  refine .some ⟨?_, r.2⟩
  unfold m_init
  exact RS_up h (by decide) r fr_post (fun r hr => by rw [m_post_aP (by omega)]) (by rw [m_post_gI]) (by rw [m_post_gT])
theorem S_forge {A : MA} {S : St} (h : RS A S) (hb : bP A) {e : Nat} (he : e < 2) {k t a b c d : Int32} : sat (f_L_forge 0 (I e) k t a b c d S) (fun x => (m_forgeN A e k t ∧ x.1 = 0 ∧ RS A x.2) ∨ (¬ m_forgeN A e k t ∧ x.1 = 1 ∧ RS (m_forge A e k t a b c d) x.2)) := by
  have e1 : (1 : Int32) - I e = I (1 - e) := I_sub (a := 1) (by omega)
  obtain ⟨ar, har, r1, r2, r3⟩ := sr_row (h.e (e := 1 - e) (by omega)) (p := 0) (by decide)
  have hlen := hb (2 * (1 - e)) (by omega)
  have r2' : S cRow_count (2 * (1 - e) + 0) 0 = I (aP A (2 * (1 - e) + 0)).length := r2
  rw [Nat.add_zero] at r2'
  have k43 : (k = 0 ∨ k = 2 ∨ k = 8) → ¬ (k ≠ 0 ∧ t = aI A e 1) → sat (f_L_forge_43 0 (I e) k t a b c d S) (fun x => (m_forgeN A e k t ∧ x.1 = 0 ∧ RS A x.2) ∨ (¬ m_forgeN A e k t ∧ x.1 = 1 ∧ RS (m_forge A e k t a b c d) x.2)) := by
    intro hk ht
    unfold f_L_forge_43 f_Row_isFull f_L_forge_91
    rw [e1, inbT (show 1 - e < 2 by omega) (by decide), if_pos rfl, if_pos (by decide), I_ix (by omega), show ix (0 : Int32) = 0 by decide, Nat.add_zero, r2']
    by_cases h8 : (aP A (2 * (1 - e))).length = 8
    · rw [if_neg (show ¬ I (aP A (2 * (1 - e))).length < 8 from fun z => by have := (I_lt (b := 8) (by omega) (by decide)).mp z; omega), if_neg (by decide)]
      exact .some (Or.inl ⟨Or.inr (Or.inr h8), rfl, h⟩)
    · rw [if_pos (show I (aP A (2 * (1 - e))).length < 8 from (I_lt (b := 8) (by omega) (by decide)).mpr (by omega)), if_pos rfl]
      have hN : ¬ m_forgeN A e k t := fun z => z.elim (fun z => hk.elim z.1 (fun q => q.elim z.2.1 z.2.2)) (fun z => z.elim ht h8)
      obtain ⟨o, S1, p1, ⟨o1, o2⟩, p2, p3, p4, p5, p6⟩ := S_post (h.e (e := 1 - e) (by omega)) (by omega) (p := 0) (by decide) (hb _ (by omega)) (k := k)
      rw [show (0 : Int32) = I 0 from rfl, p1]
      show sat (if k = I 0 then _ else _) _
      have fin : ∀ tt : Int32, ∀ q : Pkt, q.1 1 = k → q.1 0 = tt → (k = 0 → q.1 2 = a) → (k = 2 → q.1 3 = a ∧ q.1 4 = b ∧ q.1 5 = c ∧ q.1 6 = d) → RS (m_post A (2 * (1 - e)) q) (f_Cookie_set o a b c d (up3 (up3 S1 27 o 0 tt) 28 o 0 a)) := by
        intro tt q q1 q2 q3 q4
        have r := p6 q (f_Cookie_set o a b c d (up3 (up3 S1 27 o 0 tt) 28 o 0 a)) (fun x i hx => by
          unfold pcd at hx
          rw [cset_fr (by omega), up3_ob (by omega), up3_ob (by omega)]) (fun _ => pk_ck (by rw [q1]; exact hk.elim Or.inl (fun z => z.elim (fun z => Or.inr (Or.inr (Or.inl z))) (fun z => Or.inr (Or.inr (Or.inr z))))) (by rw [cset_fr (by omega), up3_code (by decide), up3_code (by decide), q1]; exact p2) (by rw [cset_fr (by omega), up3_code (by decide), up3_at, if_pos rfl, q2]) (fun z => by
            rw [cset_fr (by omega), up3_at, if_pos rfl]
            rcases z with z | z
            · exact (q3 (q1.symm.trans z)).symm
            · rw [q1] at z
              subst z
              exact absurd hk (by decide)) (fun z => by
            rcases z with z | z
            · rw [q1] at z
              subst z
              exact absurd hk (by decide)
            · obtain ⟨w1, w2, w3, w4⟩ := q4 (q1.symm.trans z)
              have := cset_at (S1 := up3 (up3 S1 27 o 0 tt) 28 o 0 a) (u := o) (q := fun k => q.1 (3 + k))
              rw [show q.1 (3 + 0) = a from w1, show q.1 (3 + 1) = b from w2, show q.1 (3 + 2) = c from w3, show q.1 (3 + 3) = d from w4] at this
              exact this))
        exact RS_up h (e := 1 - e) (by omega) r fr_post (fun r hr => by rw [m_post_aP (by omega)]) (by rw [m_post_gI]) (by rw [m_post_gT])
      unfold m_forge
      rcases hk with rfl | rfl | rfl
      · rw [if_pos (show (0 : Int32) = I 0 from rfl)]
        refine .some (Or.inr ⟨hN, rfl, ?_⟩)
        rw [if_pos rfl]
        exact fin 0 _ rfl rfl (fun _ => rfl) (fun z => absurd z (by decide))
      · rw [if_neg (show ¬ (2 : Int32) = I 0 by decide)]
        refine .some (Or.inr ⟨hN, rfl, ?_⟩)
        rw [if_neg (by decide), if_pos rfl]
        exact fin t _ rfl rfl (fun z => absurd z (by decide)) (fun _ => ⟨rfl, rfl, rfl, rfl⟩)
      · rw [if_neg (show ¬ (8 : Int32) = I 0 by decide)]
        refine .some (Or.inr ⟨hN, rfl, ?_⟩)
        rw [if_neg (by decide), if_neg (by decide)]
        exact fin t _ rfl rfl (fun z => absurd z (by decide)) (fun z => absurd z (by decide))
  have k24 : (k = 0 ∨ k = 2 ∨ k = 8) → sat (f_L_forge_24 0 (I e) k t a b c d S) (fun x => (m_forgeN A e k t ∧ x.1 = 0 ∧ RS A x.2) ∨ (¬ m_forgeN A e k t ∧ x.1 = 1 ∧ RS (m_forge A e k t a b c d) x.2)) := by
    intro hk
    unfold f_L_forge_24
    by_cases h0 : k = 0
    · rw [if_pos h0]
      exact k43 hk (fun z => z.1 h0)
    · have hown : S cEnd_ownTag e 0 = aI A e 1 := sr_own (h.e he)
      rw [if_neg h0, inbT he (by decide), if_pos rfl, I_ix (by omega), hown]
      by_cases ht : t = aI A e 1
      · rw [if_pos ht]
        exact .some (Or.inl ⟨Or.inr (Or.inl ⟨h0, ht⟩), rfl, h⟩)
      · rw [if_neg ht]
        exact k43 hk (fun z => ht z.2)
  unfold f_L_forge f_L_forge_22
  rw [if_neg (isEnd_I he)]
  by_cases h0 : k = 0
  · rw [if_pos h0]; exact k24 (Or.inl h0)
  · rw [if_neg h0]
    by_cases h2 : k = 2
    · rw [if_pos h2]; exact k24 (Or.inr (Or.inl h2))
    · rw [if_neg h2]
      by_cases h8 : k = 8
      · rw [if_pos h8]; exact k24 (Or.inr (Or.inr h8))
      · rw [if_neg h8]
        exact .some (Or.inl ⟨Or.inl ⟨h0, h2, h8⟩, rfl, h⟩)
