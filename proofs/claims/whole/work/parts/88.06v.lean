/-! What holds between calls, c calls from the start. -/
def outR (A : MA) (e : Nat) : Prop := ∀ n, aN A e 3 < n → n ≤ aN A e 4 → oSt A e n = 2 → aB A e (2 + oPa A e n) = true
/-- of an end, what sending and time change -/
def eV (A : MA) (e : Nat) (z : Nat → Nat) : Prop := bE A e ∧ (∀ p, p < 2 → aB A e (2 + p) = true → aI A e 0 = 3 ∧ gN A 0 + z p ≤ aN A e (11 + p)) ∧ (aI A e 0 = 3 → ∀ p, p < 2 → 1 ≤ aN A e (9 + p)) ∧ outR A e ∧ aN A e 22 = aN A e 3
/-- of an end, the rest -/
def eC (A : MA) (e c : Nat) (z : Nat → Nat) : Prop := (gN A 0 ≤ c ∧ aN A e 4 ≤ 4 * c ∧ ∀ s, s < 3 → aN A e (13 + s) ≤ c) ∧ ((aI A e 0 = 1 ∨ aI A e 0 = 2 → gN A 0 + z 2 ≤ aN A e 1 ∧ aN A e 0 ≤ gN A 2) ∧ aN A e 1 < 5000 ∧ 1 ≤ gN A 2) ∧ (∀ k n, 544 ≤ n → aH A e k n = false) ∧ cHa A e ≤ c ∧ qC A e c
def SN (A : MA) (e : Nat) (H : List WC) (od : Nat → Nat) : Prop := aN A e 4 = H.length ∧ (∀ n, aN A e 3 < n → n ≤ aN A e 4 → H[n - 1]? = some (oWd A e n)) ∧ ∀ s, s < 3 → aN A e (13 + s) = od s
abbrev HG : Type := Nat → Int32 → List WC
abbrev HO : Type := Nat → Int32 → Nat → Nat
def uK (A : MA) (e : Nat) (G : HG) (O : HO) : Prop := aI A e 0 = 3 → SN A e (G e (aI A e 2)) (O e (aI A e 2)) ∧ IN A e (G (1 - e) (aI A e 1)) (O (1 - e) (aI A e 1))
def pOK (key : Int32) (G : HG) (s : Nat) (q : Pkt) : Prop := (q.1 1 = 0 ∨ q.1 1 = 1 ∨ q.1 1 = 2 ∨ q.1 1 = 3 ∨ q.1 1 = 4 ∨ q.1 1 = 5 ∨ q.1 1 = 6 ∨ q.1 1 = 7 ∨ q.1 1 = 8) ∧ (q.1 1 = 4 → (∀ j, j < 8 → q.1 j = (pdat (q.1 0) q.2.1 q.2.2).1 j) ∧ (G s (q.1 0))[q.2.1 - 1]? = some q.2.2 ∧ 1 ≤ q.2.1) ∧ (q.1 1 = 5 → q.1 2 = I q.2.1 ∧ q.2.1 < 5000) ∧ (q.1 1 = 1 → s = 1 → q.1 2 = kTag key (q.1 0))
def pK (A : MA) (G : HG) : Prop := bP A ∧ ∀ r, r < 4 → ∀ q ∈ aP A r, pOK (gI A 4) G (r / 2) q
def cK (A : MA) (G : HG) (c : Nat) : Prop := ((gT A 0).length ≤ c ∧ (gT A 1).length ≤ c) ∧ ((aI A 0 0 = 1 ∨ aI A 0 0 = 2 ∨ aI A 0 0 = 3 → aI A 0 1 ∈ gT A 0 ∧ aI A 0 1 ≠ 0) ∧ (aI A 0 0 = 2 ∨ aI A 0 0 = 3 → aI A 0 2 = kTag (gI A 4) (aI A 0 1))) ∧ ((aI A 1 0 = 0 ∨ aI A 1 0 = 3) ∧ (aI A 1 0 = 3 → kTag (gI A 4) (aI A 1 2) ∈ gT A 1)) ∧ (∀ y, G 0 y ≠ [] → ∃ x, x ∈ gT A 0 ∧ x ≠ 0 ∧ y = kTag (gI A 4) x ∧ (aI A 0 0 = 1 ∨ aI A 0 0 = 2 → x ≠ aI A 0 1)) ∧ ∀ x, G 1 x ≠ [] → kTag (gI A 4) x ∈ gT A 1
def hK (G : HG) (O : HO) (c : Nat) : Prop := ∀ e t, WF (G e t) (O e t) ∧ (G e t).length ≤ 4 * c
abbrev ZZ : Type := Nat → Nat → Nat
def K (A : MA) (c : Nat) (G : HG) (O : HO) (z : ZZ) : Prop := (hK G O c ∧ pK A G ∧ cK A G c) ∧ ∀ e, e < 2 → eV A e (z e) ∧ eC A e c (z e) ∧ uK A e G O
/-- what a light step at an end leaves -/
def lF (e : Nat) (A A' : MA) : Prop := (frE e A A' ∧ gI A' = gI A ∧ gT A' = gT A) ∧ (∀ i, i < 3 → aI A' e i = aI A e i) ∧ (∀ i, (i < 2 ∨ i = 4 ∨ i = 5 ∨ (13 ≤ i ∧ i < 19) ∨ (23 ≤ i ∧ i < 26)) → aN A' e i = aN A e i) ∧ aN A e 3 ≤ aN A' e 3 ∧ (∀ n, oWd A' e n = oWd A e n) ∧ aH A' e = aH A e ∧ aW A' e = aW A e ∧ aR A' e = aR A e
theorem lF_refl (e : Nat) (A : MA) : lF e A A := ⟨⟨.rfl, rfl, rfl⟩, fun _ _ => rfl, fun _ _ => rfl, Nat.le_refl _, fun _ => rfl, rfl, rfl, rfl⟩
theorem lF.trans {e : Nat} {A B C : MA} (h : lF e A B) (k : lF e B C) : lF e A C := by
  obtain ⟨⟨a1, a2, a3⟩, a4, a5, a6, a7, a8, a9, a10⟩ := h
  obtain ⟨⟨b1, b2, b3⟩, b4, b5, b6, b7, b8, b9, b10⟩ := k
  exact ⟨⟨a1.trans b1, b2.trans a2, b3.trans a3⟩, fun i hi => (b4 i hi).trans (a4 i hi), fun i hi => (b5 i hi).trans (a5 i hi), Nat.le_trans a6 b6, fun n => (b7 n).trans (a7 n), b8.trans a8, b9.trans a9, b10.trans a10⟩
theorem cHd_cg {A B : MA} {e : Nat} (h : aH B e = aH A e) : cHd B e = cHd A e ∧ cHa B e = cHa A e := by
  unfold cHd cHa
  rw [h]
  exact ⟨rfl, rfl⟩
theorem qC_cg {A B : MA} {e c : Nat} (h : aH B e = aH A e) (hr : aR B e = aR A e) (hn : ∀ s, s < 3 → aN B e (23 + s) = aN A e (23 + s)) (k : qC A e c) : qC B e c := by
  obtain ⟨k1, k2, k3⟩ := k
  unfold qC
  rw [(cHd_cg h).1, hr]
  exact ⟨k1, fun s hs => by rw [hn s hs]; exact k2 s hs, k3⟩
theorem IN_cg {A B : MA} {e : Nat} {H : List WC} {od : Nat → Nat} (hW : WF H od) (h : aH B e = aH A e) (hw : aW B e = aW A e) (h5 : aN B e 5 = aN A e 5) (hn : ∀ s, s < 3 → aN B e (16 + s) = aN A e (16 + s)) (k : IN A e H od) : IN B e H od := by
  obtain ⟨⟨j1, j2, j3, j4⟩, i2, i3, i4, i5⟩ := k
  have hc : ∀ f, Cd B e H f → Cd A e H f := by
    rintro f ⟨m, s, o, l, hM, a, b⟩
    rw [hn s (WF_s hW hM).1] at b
    exact ⟨m, s, o, l, hM, fun j hj => by rw [← h]; exact a j hj, b⟩
  unfold IN IJ
  rw [h, hw, h5]
  exact ⟨⟨j1, j2, fun f m s o hM => by rw [hn s (WF_s hW hM).1]; exact j3 f m s o hM, fun s hs => by rw [hn s hs]; exact j4 s hs⟩, i2, i3, i4, fun f hf => i5 f (hc f hf)⟩
theorem eC_lF {A B : MA} {e c : Nat} {z : Nat → Nat} (h : lF e A B) (k : eC A e c z) : eC B e c z := by
  obtain ⟨⟨a1, a2, a3⟩, a4, a5, a6, a7, a8, a9, a10⟩ := h
  obtain ⟨⟨k1, k2, k3⟩, ⟨k4, k5, k6⟩, k7, k8, k9⟩ := k
  unfold eC
  rw [a1.2, a5 4 (by omega), a5 1 (by omega), a5 0 (by omega), a4 0 (by omega), (cHd_cg a8).2, a8]
  exact ⟨⟨k1, k2, fun s hs => by rw [a5 _ (by omega)]; exact k3 s hs⟩, ⟨k4, k5, k6⟩, k7, k8, qC_cg a8 a10 (fun s hs => a5 _ (by omega)) k9⟩
theorem uK_lF {A B : MA} {e c : Nat} {G : HG} {O : HO} (hH : hK G O c) (h : lF e A B) (k : uK A e G O) : uK B e G O := by
  obtain ⟨⟨a1, a2, a3⟩, a4, a5, a6, a7, a8, a9, a10⟩ := h
  unfold uK
  rw [a4 0 (by omega), a4 1 (by omega), a4 2 (by omega)]
  intro h3
  obtain ⟨⟨s1, s2, s3⟩, hi⟩ := k h3
  refine ⟨⟨(a5 4 (by omega)).trans s1, fun n n1 n2 => ?_, fun s hs => (a5 _ (by omega)).trans (s3 s hs)⟩, IN_cg (hH _ _).1 a8 a9 (a5 5 (by omega)) (fun s hs => a5 _ (by omega)) hi⟩
  rw [a7]
  rw [a5 4 (by omega)] at n2
  exact s2 n (by omega) n2
theorem eV_fr {A B : MA} {e x : Nat} {z : Nat → Nat} (h : frE e A B) (hx : x ≠ e) (k : eV A x z) : eV B x z := by
  have k1 := bE_fr h hx k.1
  obtain ⟨⟨a1, a2⟩, ⟨a3, a4⟩, _, _⟩ := h.1 x hx
  have k2 := k.2
  refine ⟨k1, ?_⟩
  unfold outR oSt oPa at *
  rw [a1, a2, a3, a4, h.2]
  exact k2
theorem eC_fr {A B : MA} {e x c : Nat} {z : Nat → Nat} (h : frE e A B) (hx : x ≠ e) (k : eC A x c z) : eC B x c z := by
  obtain ⟨⟨a1, a2⟩, ⟨a3, a4⟩, ⟨a5, a6⟩, a7⟩ := h.1 x hx
  unfold eC qC cHa cHd at *
  rw [a1, a2, a5, a7, h.2]
  exact k
theorem uK_fr {A B : MA} {e x : Nat} {G : HG} {O : HO} (h : frE e A B) (hx : x ≠ e) (k : uK A x G O) : uK B x G O := by
  obtain ⟨⟨a1, a2⟩, ⟨a3, a4⟩, ⟨a5, a6⟩, a7⟩ := h.1 x hx
  unfold uK SN IN IJ Cd oWd at *
  rw [a1, a2, a4, a5, a6]
  exact k
theorem cK_cg {A B : MA} {G : HG} {c : Nat} (hI : ∀ x, x < 2 → ∀ i, i < 3 → aI B x i = aI A x i) (hg : gI B = gI A) (ht : gT B = gT A) (k : cK A G c) : cK B G c := by
  unfold cK at *
  rw [hI 0 (by omega) 0 (by omega), hI 0 (by omega) 1 (by omega), hI 0 (by omega) 2 (by omega), hI 1 (by omega) 0 (by omega), hI 1 (by omega) 2 (by omega), hg, ht]
  exact k
theorem lF_I {e : Nat} {A B : MA} (h : lF e A B) : ∀ x, x < 2 → ∀ i, i < 3 → aI B x i = aI A x i := fun x hx i hi => by
  by_cases hz : x = e
  · rw [hz]
    exact h.2.1 i hi
  · rw [(h.1.1.1 x hz).1.1]
/-- a light step at an end -/
theorem K_lF {A B : MA} {c e : Nat} {G : HG} {O : HO} {z z' : ZZ} (k : K A c G O z) (h : lF e A B) (hv : eV B e (z' e)) (hz2 : z' e 2 = z e 2) (hz : ∀ x, x ≠ e → z' x = z x) (hp : pK B G) : K B c G O z' := by
  obtain ⟨⟨k1, k2, k3⟩, k4⟩ := k
  refine ⟨⟨k1, hp, cK_cg (lF_I h) h.1.2.1 h.1.2.2 k3⟩, fun x hx => ?_⟩
  obtain ⟨v, w, u⟩ := k4 x hx
  by_cases hxe : x = e
  · subst hxe
    refine ⟨hv, ?_, uK_lF k1 h u⟩
    have := eC_lF h w
    unfold eC at this ⊢
    rw [hz2]
    exact this
  · rw [hz x hxe]
    exact ⟨eV_fr h.1.1 hxe v, eC_fr h.1.1 hxe w, uK_fr h.1.1 hxe u⟩
theorem pK_P {A B : MA} {G : HG} (hP : aP B = aP A) (hg : gI B = gI A) (h : pK A G) : pK B G := by
  unfold pK bP at *
  rw [hP, hg]
  exact h
theorem pK_post {A : MA} {G : HG} (h : pK A G) {r : Nat} {q : Pkt} (hq : r < 4 → pOK (gI A 4) G (r / 2) q) : pK (m_post A r q) G := by
  refine ⟨m_post_bP h.1 r q, fun r' hr' q' hq' => ?_⟩
  rw [m_post_gI]
  unfold m_post at hq'
  split at hq'
  · exact h.2 r' hr' q' hq'
  · by_cases hz : r' = r
    · subst hz
      replace hq' : q' ∈ up1 (aP A) r' (aP A r' ++ [q]) r' := hq'
      rw [up1_eq, List.mem_append] at hq'
      rcases hq' with hq' | hq'
      · exact h.2 r' hr' q' hq'
      · rw [List.mem_singleton] at hq'
        subst hq'
        exact hq hr'
    · replace hq' : q' ∈ up1 (aP A) r (aP A r ++ [q]) r' := hq'
      rw [up1_ne hz] at hq'
      exact h.2 r' hr' q' hq'
theorem post_lF {A : MA} {e r : Nat} {q : Pkt} : lF e A (m_post A r q) := by
  unfold m_post
  split
  · exact lF_refl e A
  · exact ⟨⟨fr_uP, rfl, rfl⟩, fun _ _ => rfl, fun _ _ => rfl, Nat.le_refl _, fun _ => rfl, rfl, rfl, rfl⟩
theorem eV_post {A : MA} {e r : Nat} {q : Pkt} {z : Nat → Nat} (k : eV A e z) : eV (m_post A r q) e z := by
  have k1 := bE_post (r := r) (q := q) k.1
  have k2 := k.2
  refine ⟨k1, ?_⟩
  unfold m_post
  split
  · exact k2
  · exact k2
theorem K_post {A : MA} {c r : Nat} {q : Pkt} {G : HG} {O : HO} {z : ZZ} (k : K A c G O z) (hq : r < 4 → pOK (gI A 4) G (r / 2) q) : K (m_post A r q) c G O z :=
  K_lF (e := 0) (z := z) (z' := z) k post_lF (eV_post (k.2 0 (by decide)).1) rfl (fun _ _ => rfl) (pK_post k.1.2.1 hq)
theorem pK_sub {A : MA} {G : HG} (h : pK A G) {r : Nat} {l : List Pkt} (hl : r < 4 → l.length ≤ 8) (hs : ∀ q ∈ l, q ∈ aP A r) : pK (uP A (up1 (aP A) r l)) G := by
  refine ⟨fun r' hr' => ?_, fun r' hr' q hq => ?_⟩
  · show (up1 (aP A) r l r').length ≤ 8
    by_cases hz : r' = r
    · subst hz
      rw [up1_eq]
      exact hl hr'
    · rw [up1_ne hz]
      exact h.1 r' hr'
  · replace hq : q ∈ up1 (aP A) r l r' := hq
    by_cases hz : r' = r
    · subst hz
      rw [up1_eq] at hq
      exact h.2 r' hr' q (hs q hq)
    · rw [up1_ne hz] at hq
      exact h.2 r' hr' q hq
theorem uP_lF {A : MA} {e : Nat} {f : Nat → List Pkt} : lF e A (uP A f) := ⟨⟨fr_uP, rfl, rfl⟩, fun _ _ => rfl, fun _ _ => rfl, Nat.le_refl _, fun _ => rfl, rfl, rfl, rfl⟩
theorem K_uP {A : MA} {c : Nat} {G : HG} {O : HO} {z : ZZ} {f : Nat → List Pkt} (k : K A c G O z) (hp : pK (uP A f) G) : K (uP A f) c G O z :=
  K_lF (e := 0) (z := z) (z' := z) k uP_lF (k.2 0 (by decide)).1 rfl (fun _ _ => rfl) hp
theorem K_take {A : MA} {c r : Nat} {G : HG} {O : HO} {z : ZZ} (k : K A c G O z) : K (m_take A r) c G O z := by
  refine K_uP k (pK_sub k.1.2.1 (fun hr => ?_) (fun q hq => List.mem_of_mem_tail hq))
  rw [List.length_tail]
  have := k.1.2.1.1 r hr
  omega
theorem K_dup {A : MA} {c r : Nat} {G : HG} {O : HO} {z : ZZ} (k : K A c G O z) (h8 : (aP A r).length ≠ 8) : K (m_dup A r) c G O z := by
  refine K_uP k (pK_sub k.1.2.1 (fun hr => ?_) (fun q hq => ?_))
  · rw [List.length_append, List.length_take]
    have := k.1.2.1.1 r hr
    omega
  · rw [List.mem_append] at hq
    rcases hq with hq | hq
    · exact hq
    · exact List.mem_of_mem_take hq
theorem K_up {A : MA} {c d : Nat} {G : HG} {O : HO} {z : ZZ} (hd : c ≤ d) (k : K A c G O z) : K A d G O z := by
  obtain ⟨⟨k1, k2, ⟨k31, k32⟩, k4, k5, k6⟩, k7⟩ := k
  refine ⟨⟨fun e t => ⟨(k1 e t).1, by have := (k1 e t).2; omega⟩, k2, ⟨by omega, by omega⟩, k4, k5, k6⟩, fun e he => ?_⟩
  obtain ⟨v, ⟨⟨w1, w2, w3⟩, w4, w5, w6, q1, q2, q3⟩, u⟩ := k7 e he
  exact ⟨v, ⟨⟨by omega, by omega, fun s hs => by have := w3 s hs; omega⟩, w4, w5, by omega, by omega, fun s hs => by have := q2 s hs; omega, q3⟩, u⟩
