/-! What a delivery needs, from what holds. -/
theorem K_dOK {A : MA} {c e : Nat} {q : Pkt} {G : HG} {O : HO} {z : ZZ} (k : K A c G O z) (he : e < 2) (h3 : aI A e 0 = 3) (hc : c ≤ 511) (hq : pOK (gI A 4) G (1 - e) q) (ht : q.1 0 = aI A e 1) : dOK A e q := by
  have v := (k.2 e he).1
  refine ⟨v.1.1, v.2.2.2.2, fun h4 => ?_, fun h5 => hq.2.2.1 h5⟩
  obtain ⟨h, hw, h1⟩ := hq.2.1 h4
  rw [ht] at hw
  obtain ⟨⟨a, b⟩, d, ⟨f, g⟩, _⟩ := get_ok k he h3 hc hw h1
  refine ⟨h, a, b, fun hd => (d hd).1, ?_, g⟩
  intro r hr
  rw [(gF_P f).1]
  exact k.1.2.1.1 r hr
theorem K_dS {A : MA} {c e : Nat} {q : Pkt} {G : HG} {O : HO} {z : ZZ} (k : K A c G O z) (he : e < 2) (h3 : aI A e 0 = 3) (hc : c ≤ 511) (hq : pOK (gI A 4) G (1 - e) q) (ht : q.1 0 = aI A e 1) : dS A e q := by
  obtain ⟨v, ec, u⟩ := k.2 e he
  refine ⟨v.1.1, v.2.2.2.2, ec.2.2.1, fun h4 => ?_, fun h5 => ⟨(hq.2.2.1 h5).1, (hq.2.2.1 h5).2, fun r1 r2 p hp ho => ?_⟩⟩
  · obtain ⟨h, hw, h1⟩ := hq.2.1 h4
    rw [ht] at hw
    obtain ⟨⟨a, b⟩, d, ⟨f, g⟩, _⟩ := get_ok k he h3 hc hw h1
    refine ⟨a, b, fun hd => (d hd).2, ?_, g⟩
    intro r hr
    rw [(gF_P f).1]
    exact k.1.2.1.1 r hr
  · have := (eV_sackM (g := q.1 3) (w := q.1 4) v r1 r2).2.1
    exact cOut_runs this ho
/-- what an end hears changes itself and what it sends -/
def fG (e : Nat) (A B : MA) : Prop := frE e A B ∧ (∀ r, r / 2 ≠ e → aP B r = aP A r) ∧ gI B = gI A ∧ gT B = gT A
theorem fG_post {A : MA} {e p : Nat} {q : Pkt} (hp : p < 2) : fG e A (m_post A (2 * e + p) q) := by
  refine ⟨fr_post, fun r hr => ?_, m_post_gI _ _ _, m_post_gT _ _ _⟩
  unfold m_post
  split
  · rfl
  · exact up1_ne (by omega)
theorem fG.trans {e : Nat} {A B C : MA} (h : fG e A B) (k : fG e B C) : fG e A C := ⟨h.1.trans k.1, fun r hr => (k.2.1 r hr).trans (h.2.1 r hr), k.2.2.1.trans h.2.2.1, k.2.2.2.trans h.2.2.2⟩
theorem fG_lQ {e : Nat} {z z' : Nat → Nat} {A B : MA} (h : lQ e z z' A B) : fG e A B := ⟨h.1.1.1, fun r _ => by rw [h.2.2], h.1.1.2.1, h.1.1.2.2⟩
theorem fG_hear {A : MA} {c e p : Nat} {q : Pkt} {G : HG} {O : HO} {z : ZZ} (k : K A c G O z) (he : e < 2) (hp : p < 2) (hz : ∀ p, p < 2 → z e p ≤ 1) (h3 : aI A e 0 = 3) (hc : c ≤ 511) (hq : pOK (gI A 4) G (1 - e) q) (ht : q.1 0 = aI A e 1) : fG e A (m_hear A e p q) := by
  have rf : fG e A A := ⟨.rfl, fun _ _ => rfl, rfl, rfl⟩
  have v := (k.2 e he).1
  unfold m_hear
  split
  · rename_i h4
    obtain ⟨_, hw, h1⟩ := hq.2.1 h4
    rw [ht] at hw
    obtain ⟨_, _, ⟨f, _⟩, _⟩ := get_ok k he h3 hc hw h1
    obtain ⟨f1, f2, f3⟩ := gF_P f
    unfold m_data
    exact fG.trans ⟨gF_fr f, fun r _ => by rw [f1], f2, f3⟩ (fG_post hp)
  · split
    · split
      · exact rf
      · rename_i hn
        have h := eV_sack2 (g := q.1 3) (w := q.1 4) v hz h3 (show aN A e 3 ≤ q.2.1 by have := v.2.2.2.2; omega) (show q.2.1 ≤ aN A e 4 by omega)
        unfold m_sack
        refine fG.trans (fG_lQ h) ?_
        have hbp : bP (m_sack2 A e q.2.1 (q.1 3) (q.1 4)) := by
          intro r hr
          rw [h.2.2]
          exact k.1.2.1.1 r hr
        obtain ⟨a, b, d⟩ := sendAll_g he 64 (m_sack2 A e q.2.1 (q.1 3) (q.1 4)) h.2.1.1.1 hbp
        exact ⟨fr_sendAll _ _, a, b, d⟩
    · split
      · exact fG_post hp
      · split
        · unfold m_beatAck
          split
          · exact ⟨.trans (.trans (.trans fr_sB fr_sB) fr_sI) fr_sI, fun _ _ => rfl, rfl, rfl⟩
          · exact rf
        · split
          · exact ⟨fr_close, fun _ _ => rfl, rfl, rfl⟩
          · exact rf
