/-! The reference's constructor, run by the kernel. -/
def hMr : HA := [(100, [vI 0, vI 0, vI 0, vI 0]),
  (100, List.replicate 256 (vI 0)),
  (100, [vI 0, vI 0, vI 0, vI 0, vI 0, vI 0, vI 0, vI 0]),
  (100, [vI 0, vI 0]),
  (100, [vI 0, vI 0]),
  (100, [vI 0, vI 0]),
  (100, [vI 0, vI 0]),
  (100, [vI 0, vI 0, vI 0, vI 0]),
  (100, List.replicate 512 (vI 0)),
  (100, List.replicate 512 (vI 0)),
  (100, [vI 0, vI 0]),
  (100, [vI 0, vI 0]),
  (100, [vI 0, vI 0]),
  (100, [vI 0, vI 0]),
  (100, [vI 0, vI 0]),
  (101, [vI 0, vI 0, vI 0, vI 0]),
  (100, [vI 0, vI 0, vI 0, vI 0]),
  (100, [vI 0, vI 0, vI 0, vI 0]),
  (100, [vI 0, vI 0, vI 0, vI 0]),
  (101, [vI 0, vI 0, vI 0, vI 0]),
  (100, [vI 0, vI 0, vI 0, vI 0]),
  (101, [vI 0, vI 0, vI 0, vI 0]),
  (100, [vI 0, vI 0, vI 0, vI 0]),
  (101, [vI 0, vI 0, vI 0, vI 0]),
  (100, [vI 0, vI 0]),
  (100, [vI 0, vI 0]),
  (100, [vI 0, vI 0, vI 0, vI 0, vI 0, vI 0]),
  (100, List.replicate 64 (vI 0)),
  (100, List.replicate 64 (vI 0)),
  (100, List.replicate 64 (vI 0)),
  (100, List.replicate 64 (vI 0)),
  (100, List.replicate 64 (vI 0)),
  (100, List.replicate 64 (vI 0)),
  (100, List.replicate 64 (vI 0)),
  (100, [vI 0, vI 0]),
  (100, [vI 0, vI 0]),
  (101, List.replicate 1088 (vI 0)),
  (101, List.replicate 1088 (vI 0)),
  (100, List.replicate 1088 (vI 0)),
  (100, List.replicate 1088 (vI 0)),
  (100, List.replicate 1088 (vI 0)),
  (100, List.replicate 1088 (vI 0)),
  (100, [vI 0, vI 0, vI 0, vI 0, vI 0, vI 0]),
  (100, [vI 0, vI 0]),
  (100, [vI 0, vI 0, vI 0, vI 0, vI 0, vI 0]),
  (100, [vI 0, vI 0, vI 0, vI 0, vI 0, vI 0]),
  (100, List.replicate 3072 (vI 0)),
  (100, List.replicate 3072 (vI 0))]
def hM1 : HA := hC1 ++ (1, [vI 0, vI 0, vI 0, vI 0, vR 100 315, vR 100 316, vR 100 317, vR 100 318, vR 100 319, vR 100 320, vR 100 321, vR 100 322, vI 0, vR 100 323, vI 0, vR 100 324, vR 100 325, vR 100 326, vR 100 327, vR 100 328, vR 100 329, vR 101 330, vR 100 331, vR 100 332, vR 100 333, vR 101 334, vR 100 335, vR 101 336, vR 100 337, vR 101 338, vR 100 339, vR 100 340, vR 100 341, vR 100 342, vR 100 343, vR 100 344, vR 100 345, vR 100 346, vR 100 347, vR 100 348, vR 100 349, vR 100 350, vR 101 351, vR 101 352, vR 100 353, vR 100 354, vR 100 355, vR 100 356, vR 100 357, vR 100 358, vR 100 359, vR 100 360, vR 100 361, vR 100 362]) :: hMr
def hM2 : HA := hC1 ++ (1, [vX 0, vI 0, vI 0, vI 0, vR 100 315, vR 100 316, vR 100 317, vR 100 318, vR 100 319, vR 100 320, vR 100 321, vR 100 322, vI 0, vR 100 323, vI 0, vR 100 324, vR 100 325, vR 100 326, vR 100 327, vR 100 328, vR 100 329, vR 101 330, vR 100 331, vR 100 332, vR 100 333, vR 101 334, vR 100 335, vR 101 336, vR 100 337, vR 101 338, vR 100 339, vR 100 340, vR 100 341, vR 100 342, vR 100 343, vR 100 344, vR 100 345, vR 100 346, vR 100 347, vR 100 348, vR 100 349, vR 100 350, vR 101 351, vR 101 352, vR 100 353, vR 100 354, vR 100 355, vR 100 356, vR 100 357, vR 100 358, vR 100 359, vR 100 360, vR 100 361, vR 100 362]) :: hMr
def hM3 : HA := hC1 ++ (1, [vX 0, vX 1, vX 2, vI 0, vR 100 315, vR 100 316, vR 100 317, vR 100 318, vR 100 319, vR 100 320, vR 100 321, vR 100 322, vI 0, vR 100 323, vI 0, vR 100 324, vR 100 325, vR 100 326, vR 100 327, vR 100 328, vR 100 329, vR 101 330, vR 100 331, vR 100 332, vR 100 333, vR 101 334, vR 100 335, vR 101 336, vR 100 337, vR 101 338, vR 100 339, vR 100 340, vR 100 341, vR 100 342, vR 100 343, vR 100 344, vR 100 345, vR 100 346, vR 100 347, vR 100 348, vR 100 349, vR 100 350, vR 101 351, vR 101 352, vR 100 353, vR 100 354, vR 100 355, vR 100 356, vR 100 357, vR 100 358, vR 100 359, vR 100 360, vR 100 361, vR 100 362]) :: hMr
def lsM0 : iL := [some (vR 1 314), some (vX 3), some (vX 4), some (vX 2)]
def eqO : Option iV → Option iV → Bool
  | none, none => true
  | some a, some b => eqV a b
  | _, _ => false
theorem eqO_eq {a b : Option iV} (h : eqO a b = true) : a = b := by
  unfold eqO at h
  split at h
  · rfl
  · rw [eqV_eq h]
  · cases h
def eqLs : iL → iL → Bool
  | [], [] => true
  | a :: r, b :: q => eqO a b && eqLs r q
  | _, _ => false
theorem eqLs_eq : ∀ {a b : iL}, eqLs a b = true → a = b := by
  intro a
  induction a with
  | nil => intro b h; cases b with | nil => rfl | cons x y => cases h
  | cons x r ih =>
    intro b h
    cases b with
    | nil => cases h
    | cons y q =>
      have h : (eqO x y && eqLs r q) = true := h
      rw [Bool.and_eq_true] at h
      rw [eqO_eq h.1, ih h.2]
def eqC (a b : iC × HA) : Bool := Nat.beq a.1.1 b.1.1 && (eqLs a.1.2.1 b.1.2.1 && (eqL a.1.2.2 b.1.2.2 && eqH a.2 b.2))
theorem eqC_eq {a b : iC × HA} (h : eqC a b = true) : a = b := by
  unfold eqC at h
  rw [Bool.and_eq_true, Bool.and_eq_true, Bool.and_eq_true] at h
  obtain ⟨⟨p, ls, st⟩, hp⟩ := a
  obtain ⟨⟨p', ls', st'⟩, hp'⟩ := b
  have h1 : p = p' := Nat.eq_of_beq_eq_true h.1
  have h2 : ls = ls' := eqLs_eq h.2.1
  have h3 : st = st' := eqL_eq h.2.2.1
  have h4 : hp = hp' := eqH_eq h.2.2.2
  rw [h1, h2, h3, h4]
def isC (a : Option (iC × HA)) (b : iC × HA) : Bool := match a with
  | some x => eqC x b
  | none => false
theorem isC_eq {a : Option (iC × HA)} {b : iC × HA} (h : isC a b = true) : a = some b := by
  unfold isC at h
  split at h
  · rw [eqC_eq h]
  · cases h
def isO (a : Option (Option iV × HA)) (b : Option iV × HA) : Bool := match a with
  | some x => eqO x.1 b.1 && eqH x.2 b.2
  | none => false
theorem isO_eq {a : Option (Option iV × HA)} {b : Option iV × HA} (h : isO a b = true) : a = some b := by
  unfold isO at h
  split at h
  · rw [Bool.and_eq_true] at h
    rename_i x
    obtain ⟨x1, x2⟩ := x
    obtain ⟨y1, y2⟩ := b
    have h1 : x1 = y1 := eqO_eq h.1
    have h2 : x2 = y2 := eqH_eq h.2
    rw [h1, h2]
  · cases h
set_option maxRecDepth 100000 in
theorem run_M1 : iGo hopB tgT (metB 2000 1) 1 0 cd_M_new 194 (0, lsM0, []) (hC1 ++ [(1, dfA 1)]) = some ((374, lsM0, []), hM1) := isC_eq (by decide +kernel)
set_option maxRecDepth 100000 in
theorem run_M2 : iGo hopB tgT (metB 2000 1) 1 0 cd_M_new 1 (396, lsM0, [vX 0, vR 1 314]) hM1 = some ((399, lsM0, []), hM2) := isC_eq (by decide +kernel)
set_option maxRecDepth 100000 in
theorem run_M3 : iRun hopB tgT (metB 2000 1) 1 0 cd_M_new 10 (421, lsM0, [vX 1, vR 1 314]) hM2 = some (none, hM3) := isO_eq (by decide +kernel)
