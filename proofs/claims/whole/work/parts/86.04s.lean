/-- the end's first scalars are written anew -/
theorem RSx_E {A A' : MA} {e : Nat} {S S' : St} (h : RSe A e S) (hst : aI A' e 0 = 3 → aI A e 0 = 3) (hI : ∀ i, 4 ≤ i → i < 10 → aI A' e i = aI A e i) (hN : ∀ i, 2 ≤ i → i < 13 → aN A' e i = aN A e i) (hf : aB A' e = aB A e ∧ aO A' e = aO A e ∧ aH A' e = aH A e ∧ aW A' e = aW A e ∧ aR A' e = aR A e) (hP : aP A' = aP A) (hg : gN A' 1 = gN A 1 ∧ gN A' 2 = gN A 2 ∧ gI A' = gI A) (c : ∀ x i, (¬ ecd x ∨ i ≠ e) → S' x i = S x i) (hE : eS A e S → eS A' e S') : RSe A' e S' := by
  obtain ⟨⟨h1, h2⟩, ⟨h3, h4, h5⟩, ⟨h6, h7⟩, h8⟩ := h
  obtain ⟨f1, f2, f3, f4, f5⟩ := hf
  have cc : ∀ x i, ¬ ecd x → S' x i = S x i := fun x i hx => c x i (Or.inl hx)
  refine ⟨⟨hE h1, fun k => uS_c (h2 (hst k)) (hN 2 (by decide) (by decide)) (hI 4 (by decide) (by decide)) (hI 5 (by decide) (by decide)) (fun p hp => ⟨⟨hN _ (by omega) (by omega), hN _ (by omega) (by omega), hN _ (by omega) (by omega)⟩, ⟨hI _ (by omega) (by omega), hI _ (by omega) (by omega)⟩, by rw [f1], by rw [f1], by rw [f1]⟩) (cc 10 e (by unfold ecd; omega)) (cc 14 e (by unfold ecd; omega)) (cc 25 e (by unfold ecd; omega)) (fun x q a b hq => cc x _ (by unfold ecd; omega))⟩, ⟨oS_c h3 (hN 3 (by decide) (by decide)) (hN 4 (by decide) (by decide)) f2 (fun x k a b hk => cc x _ (by unfold ecd; omega)) (fun x k a b hk => cc x _ (by unfold ecd; omega)), hS_c h4 (hN 5 (by decide) (by decide)) f3 f4 (cc 18 e (by unfold ecd; omega)) (fun x k a b hk => cc x _ (by unfold ecd; omega)), ?_⟩, ⟨?_, ?_⟩, kS_c h8 hg.1 hg.2.1 hg.2.2 (cc 11 e (by unfold ecd; omega)) (cc 12 e (by unfold ecd; omega)) (cc 17 e (by unfold ecd; omega)) (fun x a b => cc x 36 (by unfold ecd; omega))⟩
  · rw [f5]
    exact rS_c h5 (fun x a b => cc x e (by unfold ecd; omega))
  · rw [hP]
    exact rwS_cg h6 (cc 47 _ (by unfold ecd; omega)) (cc 48 _ (by unfold ecd; omega)) (fun x hx i _ _ => cc x i (by unfold pcd at hx; unfold ecd; omega))
  · rw [hP]
    exact rwS_cg h7 (cc 47 _ (by unfold ecd; omega)) (cc 48 _ (by unfold ecd; omega)) (fun x hx i _ _ => cc x i (by unfold pcd at hx; unfold ecd; omega))
theorem ow_e {x e : Nat} (hx : 7 ≤ x ∧ x ≤ 25) : ownr x e = e := by
  unfold ownr
  rw [if_neg (by omega), if_pos hx]
/-- state, own tag, tries -/
theorem ss_start {A : MA} {e : Nat} {S : St} (h : RSe A e S) {t : Int32} {n : Nat} : RSe (sN (sN (sI (sI A e 0 1) e 1 t) e 0 1) e 1 n) e (up3 (up3 (up3 (up3 S 7 e 0 1) 8 e 0 t) 15 e 0 1) 16 e 0 (I n)) := by
  have i0 : aI (sN (sN (sI (sI A e 0 1) e 1 t) e 0 1) e 1 n) e 0 = 1 := by
    show up2 (up2 (aI A) e 0 1) e 1 t e 0 = 1
    rw [up2_ne2 (by decide), up2_eq]
  have iI : ∀ i, 2 ≤ i → aI (sN (sN (sI (sI A e 0 1) e 1 t) e 0 1) e 1 n) e i = aI A e i := fun i hi => by
    show up2 (up2 (aI A) e 0 1) e 1 t e i = _
    rw [up2_ne2 (by omega), up2_ne2 (by omega)]
  have iN : ∀ i, 2 ≤ i → aN (sN (sN (sI (sI A e 0 1) e 1 t) e 0 1) e 1 n) e i = aN A e i := fun i hi => by
    show up2 (up2 (aN A) e 0 1) e 1 n e i = _
    rw [up2_ne2 (by omega), up2_ne2 (by omega)]
  refine RSx_E h (fun z => by rw [i0] at z; exact absurd z (by decide)) (fun i a b => iI i (by omega)) (fun i a b => iN i (by omega)) ⟨rfl, rfl, rfl, rfl, rfl⟩ rfl ⟨rfl, rfl, rfl⟩ (fun x i hx => by
    rw [up3_ob (by unfold ecd at hx; omega), up3_ob (by unfold ecd at hx; omega), up3_ob (by unfold ecd at hx; omega), up3_ob (by unfold ecd at hx; omega)]) ?_
  rintro ⟨⟨e1, e2, e3, e4⟩, ⟨e5, e6⟩, ⟨e7, e8, e9⟩, ⟨e10, e11⟩, e12⟩
  have cc : ∀ x, x ≠ 7 → x ≠ 8 → x ≠ 15 → x ≠ 16 → up3 (up3 (up3 (up3 S 7 e 0 1) 8 e 0 t) 15 e 0 1) 16 e 0 (I n) x = S x := fun x a b c d => by rw [up3_code d, up3_code c, up3_code b, up3_code a]
  unfold eS
  rw [i0, iI 2 (by decide), iI 3 (by decide), iN 3 (by decide), iN 4 (by decide), iN 5 (by decide), iI 10 (by decide), cc 9 (by decide) (by decide) (by decide) (by decide), cc 13 (by decide) (by decide) (by decide) (by decide), cc 23 (by decide) (by decide) (by decide) (by decide), cc 24 (by decide) (by decide) (by decide) (by decide), cc 21 (by decide) (by decide) (by decide) (by decide), cc 22 (by decide) (by decide) (by decide) (by decide), cc 19 (by decide) (by decide) (by decide) (by decide), cc 20 (by decide) (by decide) (by decide) (by decide)]
  refine ⟨⟨?_, ?_, e3, e4⟩, ⟨?_, ?_⟩, ⟨e7, e8, e9⟩, ⟨fun s hs => by rw [iN (13 + s) (by omega)]; exact e10 s hs, fun s hs => by rw [iN (16 + s) (by omega)]; exact e11 s hs⟩, e12⟩
  · rw [up3_code (by decide), up3_code (by decide), up3_code (by decide), up3_at, if_pos rfl]
  · rw [up3_code (by decide), up3_code (by decide), up3_at, if_pos rfl]
    exact up2_eq.symm
  · rw [up3_code (by decide), up3_at, if_pos rfl]
    have : aN (sN (sN (sI (sI A e 0 1) e 1 t) e 0 1) e 1 n) e 0 = 1 := by
      show up2 (up2 (aN A) e 0 1) e 1 n e 0 = 1
      rw [up2_ne2 (by decide), up2_eq]
    rw [this]
    rfl
  · rw [up3_at, if_pos rfl]
    exact congrArg I up2_eq.symm
/-- the INIT or ECHO -/
def m_opP (A : MA) (e : Nat) : Pkt := if aI A e 0 = 1 then pkt 0 0 (aI A e 1) 0 0 0 0 else m_echoP A e
theorem S_opening {A : MA} {e p : Nat} {S : St} (h : RSe A e S) (he : e < 2) (hp : p < 2) (hb : (aP A (2 * e + p)).length ≤ 8) (h0 : aI A e 0 = 1 ∨ e = 0) : sat (f_End_postOpening e (I p) S) (fun S' => RSe (m_post A (2 * e + p) (m_opP A e)) e S' ∧ frS e S S') := by
  unfold f_End_postOpening m_opP
  have hst : S cEnd_state e 0 = aI A e 0 := sr_state h
  rw [hst]
  by_cases h1 : aI A e 0 = 1
  · rw [if_pos h1, if_pos h1]
    obtain ⟨o, S1, e1, ⟨o1, o2⟩, e2, e3, e4, e5, e6⟩ := S_post h he hp hb (k := 0)
    rw [e1]
    have hown : S1 cEnd_ownTag e 0 = aI A e 1 := by rw [e5 8 e (by decide) (by decide) (by decide)]; exact sr_own h
    refine .some (e6 _ _ (fun x i hx => ?_) (fun _ => ?_))
    · rw [up3_ob (c := 28) (by unfold pcd at hx; omega), up3_ob (c := 27) (by unfold pcd at hx; omega)]
    · refine ⟨?_, ?_, fun _ => ?_, fun z => ?_, fun z => ?_, fun z => ?_, fun z => ?_⟩
      · rw [up3_code (by decide), up3_code (by decide), e2]; rfl
      · rw [up3_code (by decide), up3_at, if_pos rfl]; rfl
      · rw [up3_at, if_pos rfl, hown]; rfl
      · exact absurd z (by show ¬ ((0 : Int32) = 1 ∨ (0 : Int32) = 2); decide)
      · exact absurd z (by show ¬ ((0 : Int32) = 4); decide)
      · exact absurd z (by show ¬ ((0 : Int32) = 5); decide)
      · exact absurd z (by show ¬ ((0 : Int32) = 6 ∨ (0 : Int32) = 7); decide)
  · rw [if_neg h1, if_neg h1]
    have hz := h0.elim (fun z => absurd z h1) id
    subst hz
    obtain ⟨o, S1, e1, ⟨o1, o2⟩, e2, e3, e4, e5, e6⟩ := S_post h he hp hb (k := 2)
    rw [e1]
    unfold f_Cookie_copyFrom
    obtain ⟨k1, k2, k3, k4⟩ := h.2.2.2.2.2.2 rfl
    have g : ∀ x, 3 ≤ x → x ≤ 6 → S1 x (0 + 36) 0 = S x 36 0 := fun x a b => by rw [e5 x _ (by omega) (by omega) (by omega)]
    refine .some (e6 _ _ (fun x i hx => ?_) (fun _ => ?_))
    · rw [up3_ob (c := 6) (by unfold pcd at hx; omega), up3_ob (c := 5) (by unfold pcd at hx; omega), up3_ob (c := 4) (by unfold pcd at hx; omega), up3_ob (c := 3) (by unfold pcd at hx; omega)]
    · refine ⟨?_, ?_, fun z => ?_, fun _ => ⟨?_, ?_, ?_, ?_⟩, fun z => ?_, fun z => ?_, fun z => ?_⟩
      · rw [up3_code (by decide), up3_code (by decide), up3_code (by decide), up3_code (by decide), e2]; rfl
      · rw [up3_code (by decide), up3_code (by decide), up3_code (by decide), up3_code (by decide), e3]; rfl
      · exact absurd z (by show ¬ ((2 : Int32) = 0 ∨ (2 : Int32) = 1); decide)
      · rw [up3_code (by decide), up3_code (by decide), up3_code (by decide), up3_at, if_pos rfl, g 3 (by decide) (by decide)]; exact k1
      · rw [up3_code (by decide), up3_code (by decide), up3_at, if_pos rfl, g 4 (by decide) (by decide)]; exact k2
      · rw [up3_code (by decide), up3_at, if_pos rfl, g 5 (by decide) (by decide)]; exact k3
      · rw [up3_at, if_pos rfl, g 6 (by decide) (by decide)]; exact k4
      · exact absurd z (by show ¬ ((2 : Int32) = 4); decide)
      · exact absurd z (by show ¬ ((2 : Int32) = 5); decide)
      · exact absurd z (by show ¬ ((2 : Int32) = 6 ∨ (2 : Int32) = 7); decide)
theorem S_start {A : MA} {S : St} (h : RSe A 0 S) (hb : (aP A 0).length ≤ 8) {t : Int32} {n : Nat} : sat (f_End_startOpening 0 t (I n) S) (fun S' => RSe (m_post (sN (sN (sI (sI A 0 0 1) 0 1 t) 0 0 1) 0 1 (n + 3)) 0 (pkt 0 0 t 0 0 0 0)) 0 S' ∧ frS 0 S S') := by
  unfold f_End_startOpening f_End_startTries
  rw [show (3 : Int32) = I 3 from rfl, I_add]
  have h1 := ss_start h (e := 0) (t := t) (n := n + 3)
  have i0 : aI (sN (sN (sI (sI A 0 0 1) 0 1 t) 0 0 1) 0 1 (n + 3)) 0 0 = 1 := by
    show up2 (up2 (aI A) 0 0 1) 0 1 t 0 0 = 1
    rw [up2_ne2 (by decide), up2_eq]
  have i1 : aI (sN (sN (sI (sI A 0 0 1) 0 1 t) 0 0 1) 0 1 (n + 3)) 0 1 = t := by
    show up2 (up2 (aI A) 0 0 1) 0 1 t 0 1 = t
    rw [up2_eq]
  refine .bd (S_opening h1 (by decide) (p := 0) (by decide) hb (Or.inr rfl)) (fun S' h' => .some ⟨?_, ?_⟩)
  · have := h'.1
    unfold m_opP at this
    rw [if_pos i0, i1] at this
    exact this
  · exact frS.trans ((((frS.rfl.up (ow_e (by decide))).up (ow_e (by decide))).up (ow_e (by decide))).up (ow_e (by decide))) h'.2
/-! Both ends, tags, time. -/
def tgS (L : List Int32) (i : Nat) (S : St) : Prop := S 53 i 0 = I L.length ∧ ∀ k x, L[k]? = some x → S 52 i k = x
def RS (A : MA) (S : St) : Prop := (S 1 0 0 = gI A 4 ∧ S 2 0 0 = I (gN A 0)) ∧ (tgS (gT A 0) 0 S ∧ tgS (gT A 1) 1 S) ∧ RSe A 0 S ∧ RSe A 1 S
theorem RS.e {A : MA} {S : St} (h : RS A S) {e : Nat} (he : e < 2) : RSe A e S := by
  have : e = 0 ∨ e = 1 := by omega
  rcases this with rfl | rfl
  · exact h.2.2.1
  · exact h.2.2.2
/-- the other end's part stays -/
theorem RSe_o {A A' : MA} {e e' : Nat} {S S' : St} (h : RSe A e' S) (he : e' < 2) (hne : e' ≠ e) (hf : frE e A A') (hP : ∀ r, r / 2 ≠ e → aP A' r = aP A r) (hg : gI A' = gI A) (hfs : frS e S S') : RSe A' e' S' := by
  refine RSe_cg ?_ he (fun x i hx => hfs x i (by rw [hx]; exact hne))
  obtain ⟨⟨⟨f1, f2⟩, ⟨f3, f4⟩, ⟨f5, f6⟩, f7⟩, f8⟩ := And.intro (hf.1 e' hne) hf.2
  have p0 := hP (2 * e') (by omega)
  have p1 := hP (2 * e' + 1) (by omega)
  unfold RSe eS uS pS oS hS kS at *
  rw [f1, f2, f3, f4, f5, f6, f7, f8, hg, p0, p1]
  exact h
theorem ow_g {x : Nat} {i : Nat} (hx : x < 3 ∨ x = 52 ∨ x = 53) : ownr x i = 2 := by
  unfold ownr
  rw [if_neg (by omega), if_neg (by omega), if_neg (by omega), if_neg (by omega), if_neg (by omega), if_neg (by omega), if_neg (by omega), if_neg (by omega)]
/-- one end is done -/
theorem RS_up {A A' : MA} {e : Nat} {S S' : St} (h : RS A S) (he : e < 2) (h' : RSe A' e S' ∧ frS e S S') (hf : frE e A A') (hP : ∀ r, r / 2 ≠ e → aP A' r = aP A r) (hg : gI A' = gI A) (hT : gT A' = gT A) : RS A' S' := by
  obtain ⟨⟨g1, g2⟩, ⟨t1, t2⟩, r0, r1⟩ := h
  have c : ∀ x i, x < 3 ∨ x = 52 ∨ x = 53 → S' x i = S x i := fun x i hx => h'.2 x i (by rw [ow_g hx]; omega)
  refine ⟨⟨by rw [c 1 0 (by decide), hg]; exact g1, by rw [c 2 0 (by decide), hf.2]; exact g2⟩, ⟨?_, ?_⟩, ?_, ?_⟩
  · rw [hT]
    unfold tgS at *
    rw [c 53 0 (by decide), c 52 0 (by decide)]
    exact t1
  · rw [hT]
    unfold tgS at *
    rw [c 53 1 (by decide), c 52 1 (by decide)]
    exact t2
  · by_cases hz : e = 0
    · subst hz; exact h'.1
    · exact RSe_o r0 (by decide) (by omega) hf hP hg h'.2
  · by_cases hz : e = 1
    · subst hz; exact h'.1
    · exact RSe_o r1 (by decide) (by omega) hf hP hg h'.2
