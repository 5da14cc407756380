def posO (t i : Nat) : Nat := (posL.getD t []).getD i 0
def adF (base bs t i : Nat) : Nat := match Nat.beq t 63 with
  | true => bs
  | false => base + posO t i
/-- the start: all 0 but the room, the limit, the key and the numbers that begin with 1 -/
def s0V (x : Nat) : iV := match x with
  | 1 => vX 2
  | 11 => vX 0
  | 12 => vX 1
  | 17 => vX 0
  | 23 => vI 1
  | 24 => vI 1
  | 1001 => vX 0
  | 1002 => vX 1
  | 1003 => vX 2
  | _ => vI 0
def S0 (rho : Nat → Int32) : St := fun x _ _ => iInt rho (s0V x)
def isRf (p : Nat) (v : iV) : Bool := match v with
  | Sum.inr (Sum.inr (Sum.inl (some (t, j)))) => !Nat.beq t 63 && Nat.beq j p
  | _ => false
def isIn (v : iV) : Bool := match v with
  | Sum.inl _ => true
  | Sum.inr (Sum.inr (Sum.inr _)) => true
  | _ => false
def is01 (v : iV) : Bool := match v with
  | Sum.inl x => iIsB x
  | _ => false
def fldB (i : Nat) (q : Nat × Nat × Nat × Nat) (v : iV) : Bool := match q with
  | (0, x, _, _) => eqV (s0V x) v
  | (1, x, _, _) => eqV (s0V x) v && is01 v
  | (2, x, _, b) => !Nat.beq x 63 && isRf (posO x (i + b)) v
  | (3, x, _, _) => eqV (s0V x) v
  | (_, x, a, b) => !Nat.beq x 63 && isRf (posO x (a * i + b)) v
def fldsB (i : Nat) : List (Nat × Nat × Nat × Nat) → List iV → Bool
  | [], [] => true
  | q :: r, v :: w => fldB i q v && fldsB i r w
  | _, _ => false
def allJ (f : Nat → iV → Bool) : Nat → List iV → Bool
  | _, [] => true
  | j, v :: r => f j v && allJ f (j + 1) r
def arrB (i : Nat) (q : (Nat × Nat × Nat × Nat × Nat) × Nat × Nat) (c : Nat × List iV) : Bool := Nat.beq c.1 (100 + q.2.2) && (Nat.beq c.2.length q.1.2.2.2.2 && (match q.1 with
  | (0, x, _, _, _) => Nat.beq q.2.2 0 && allJ (fun _ v => eqV (s0V x) v) 0 c.2
  | (1, x, _, _, _) => Nat.beq q.2.2 1 && allJ (fun _ v => eqV (s0V x) v && is01 v) 0 c.2
  | (2, x, _, _, _) => Nat.blt 1 q.2.2 && (!Nat.beq x 63 && allJ (fun j v => isRf (posO x j) v) 0 c.2)
  | (3, x, a, _, _) => Nat.blt 1 q.2.2 && (!Nat.beq x 63 && allJ (fun j v => isRf (posO x (a * i + j)) v) 0 c.2)
  | (_, x, a, b, _) => Nat.blt 1 q.2.2 && (!Nat.beq x 63 && allJ (fun j v => isRf (posO x (a * i + j + b)) v) 0 c.2)))
def celB (q : Nat × Nat) : Bool := !Nat.beq q.1 63 && (match hM3[posO q.1 q.2]? with
  | none => false
  | some c => match Nat.blt q.1 64 with
    | true => Nat.beq c.1 q.1 && fldsB q.2 (fkL.getD q.1 []) c.2
    | false => match akL[q.1 - 64]? with
      | some k => arrB q.2 k c
      | none => false)
set_option maxRecDepth 100000 in
theorem cel_ok : OB.all celB = true := by decide +kernel
/-- the places are apart: the place of the k-th object determines k -/
def invL : List Nat := OB.map (fun q => posO q.1 q.2)
set_option maxRecDepth 100000 in
theorem inv_nd : invL.Nodup := by decide +kernel
section aTr
variable {base bs : Nat} {rho : Nat → Int32}
theorem isRf_eq {x p : Nat} {v : iV} (hx : Nat.beq x 63 = false) (h : isRf p v = true) {i : Nat} (hp : posO x i = p) : iTv (adA base bs) rho v = .ref (adF base bs x i) ∧ iRef (adA base bs) v = some (adF base bs x i) := by
  unfold isRf at h
  split at h
  · rename_i t j
    rw [Bool.and_eq_true] at h
    obtain ⟨h1, h2⟩ := h
    obtain rfl := Nat.eq_of_beq_eq_true h2
    have h1 : Nat.beq t 63 = false := by
      cases hq : Nat.beq t 63 with
      | true => rw [hq] at h1; cases h1
      | false => rfl
    have e : adA base bs t j = adF base bs x i := by
      unfold adA adF
      rw [h1, hx, hp]
    exact ⟨congrArg Value.ref e, congrArg some e⟩
  · cases h
theorem s0_I (x : Nat) : isIn (s0V x) = true := by
  unfold s0V
  split <;> rfl
theorem isIn_tv {ad : Nat → Nat → Nat} {v : iV} (h : isIn v = true) : iTv ad rho v = .int (iInt rho v) := by
  unfold isIn at h
  split at h
  · rfl
  · rfl
  · cases h
theorem is01_nz {v : iV} (h : is01 v = true) : nz (iInt rho v) = iInt rho v := by
  unfold is01 at h
  split at h
  · rename_i x
    unfold iIsB at h
    simp only [Bool.or_eq_true, decide_eq_true_eq] at h
    show nz x = x
    rcases h with rfl | rfl <;> rfl
  · cases h
theorem sG0 (x i j : Nat) : sGet (S0 rho, S0 rho) x i j = iInt rho (s0V x) := by
  unfold sGet
  split <;> rfl
theorem nb63 {x : Nat} (h : (!Nat.beq x 63) = true) : Nat.beq x 63 = false := by
  cases hq : Nat.beq x 63 with
  | true => rw [hq] at h; cases h
  | false => rfl
theorem fld_eq {i : Nat} {q : Nat × Nat × Nat × Nat} {v : iV} (h : fldB i q v = true) : iTv (adA base bs) rho v = fVal (adF base bs) (S0 rho, S0 rho) q i := by
  obtain ⟨kd, x, a, b⟩ := q
  rcases kd with _ | _ | _ | _ | kd
  · have h : eqV (s0V x) v = true := h
    rw [← eqV_eq h, isIn_tv (s0_I _)]
    show _ = Value.int (sGet _ _ _ _)
    rw [sG0]
  · have h : (eqV (s0V x) v && is01 v) = true := h
    rw [Bool.and_eq_true] at h
    have e := eqV_eq h.1
    have h2 := h.2
    rw [← e] at h2
    rw [← e, isIn_tv (s0_I _)]
    show _ = Value.int (nz (sGet _ _ _ _))
    rw [sG0, is01_nz h2]
  · have h : (!Nat.beq x 63 && isRf (posO x (i + b)) v) = true := h
    rw [Bool.and_eq_true] at h
    exact (isRf_eq (nb63 h.1) h.2 rfl).1
  · have h : eqV (s0V x) v = true := h
    rw [← eqV_eq h, isIn_tv (s0_I _)]
    show _ = Value.int (sGet _ _ _ _)
    rw [sG0]
  · have h : (!Nat.beq x 63 && isRf (posO x (a * i + b)) v) = true := h
    rw [Bool.and_eq_true] at h
    exact (isRf_eq (nb63 h.1) h.2 rfl).1
theorem flds_eq {i : Nat} : ∀ {qs : List (Nat × Nat × Nat × Nat)} {vs : List iV}, fldsB i qs vs = true → vs.map (iTv (adA base bs) rho) = qs.map (fun q => fVal (adF base bs) (S0 rho, S0 rho) q i) := by
  intro qs
  induction qs with
  | nil => intro vs h; cases vs with | nil => rfl | cons a b => cases h
  | cons q r ih =>
    intro vs h
    cases vs with
    | nil => cases h
    | cons v w =>
      have h : (fldB i q v && fldsB i r w) = true := h
      rw [Bool.and_eq_true] at h
      rw [List.map_cons, List.map_cons, fld_eq h.1, ih h.2]
theorem allJ_at {f : Nat → iV → Bool} : ∀ {vs : List iV} {n j : Nat} {v : iV}, allJ f n vs = true → vs[j]? = some v → f (n + j) v = true := by
  intro vs
  induction vs with
  | nil => intro n j v _ h; cases h
  | cons a r ih =>
    intro n j v h hj
    have h : (f n a && allJ f (n + 1) r) = true := h
    rw [Bool.and_eq_true] at h
    cases j with
    | zero => cases hj; exact h.1
    | succ j =>
      have := ih h.2 (j := j) (v := v) hj
      rw [show n + (j + 1) = n + 1 + j by omega]
      exact this
theorem arrV_cong {c : ClassId} {n : Nat} {f g : Nat → Value} (h : ∀ j, j < n → f j = g j) : arrV c n f = arrV c n g := by
  unfold arrV
  congr 1
  congr 1
  funext j
  exact h j.1 j.2
end aTr
