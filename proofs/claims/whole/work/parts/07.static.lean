/-! The static heap: every object is a kind and a number; ints and booleans lie in a store by code, object and place; references are fixed. -/
abbrev St : Type := Nat → Nat → Nat → Int32
abbrev SS : Type := St × St
def up3 (S : St) (x i j : Nat) (v : Int32) : St := fun x' i' j' => match Nat.beq x' x with
  | false => S x' i' j'
  | true => if i' = i ∧ j' = j then v else S x' i' j'
def sGet (S : SS) (x i j : Nat) : Int32 := match Nat.ble 1000 x with
  | true => S.2 x i j
  | false => S.1 x i j
def sPut (S : SS) (x i j : Nat) (v : Int32) : SS := match Nat.ble 1000 x with
  | true => (S.1, up3 S.2 x i j v)
  | false => (up3 S.1 x i j v, S.2)
/-- a boolean cell as a number -/
def nz (x : Int32) : Int32 := if x = 0 then 0 else 1
abbrev ix (i : Int32) : Nat := i.toNatClampNeg
def inb (i : Int32) (n : Nat) : Bool := !decide (i < 0) && Nat.blt i.toNatClampNeg n
theorem inb_in {i : Int32} {n : Nat} (h : inb i n = true) : vp_in i n := by
  simp only [inb, Bool.and_eq_true, Bool.not_eq_true', decide_eq_false_iff_not, Nat.blt_eq] at h
  exact fun q => q.elim h.1 (fun q => by omega)
def akO (t : Nat) : Option (Nat × Nat × Nat × Nat × Nat) := match Nat.ble 64 t with
  | true => (akL[t - 64]?).map (fun q => q.1)
  | false => none
theorem akO_ge {t : Nat} {k : Nat × Nat × Nat × Nat × Nat} (h : akO t = some k) : 64 ≤ t ∧ (akL[t - 64]?).map (fun q => q.1) = some k := by
  unfold akO at h
  split at h
  · rename_i hb
    exact ⟨Nat.ble_eq.mp hb, h⟩
  · cases h
def flO (own k : Nat) : Option (Nat × Nat × Nat × Nat × Nat × Nat) := iLk2 (flL.getD own []) k
def hG1 (q : Option (Nat × Nat × Nat × Nat × Nat × Nat)) (t j : Nat) (r : List iV) (S : SS) : Option (List iV × SS) := match q with
  | some (cls, _, kd, x, a, b) => match Nat.beq t cls with
    | true => match kd with
      | 0 => some (vI (sGet S x j 0) :: r, S)
      | 1 => some (vI (nz (sGet S x j 0)) :: r, S)
      | 2 => some (vR x (j + b) :: r, S)
      | 3 => some (vI (sGet S x j 0) :: r, S)
      | _ => some (vR x (a * j + b) :: r, S)
    | false => none
  | none => none
def hGet (own k : Nat) (st : List iV) (S : SS) : Option (List iV × SS) := match st with
  | Sum.inr (Sum.inr (Sum.inl (some (t, j)))) :: r => hG1 (flO own k) t j r S
  | _ => none
def hP1 (q : Option (Nat × Nat × Nat × Nat × Nat × Nat)) (t : Nat) (v : Int32) (j : Nat) (r : List iV) (S : SS) : Option (List iV × SS) := match q with
  | some (cls, _, kd, x, _, _) => match Nat.beq t cls with
    | true => match kd with
      | 0 => some (r, sPut S x j 0 v)
      | 1 => match iIsB v with
        | true => some (r, sPut S x j 0 v)
        | false => none
      | _ => none
    | false => none
  | none => none
def hPut (own k : Nat) (st : List iV) (S : SS) : Option (List iV × SS) := match st with
  | Sum.inl v :: Sum.inr (Sum.inr (Sum.inl (some (t, j)))) :: r => hP1 (flO own k) t v j r S
  | _ => none
def hI1 (q : Option (Nat × Nat × Nat × Nat × Nat)) (i : Int32) (j : Nat) (r : List iV) (S : SS) : Option (List iV × SS) := match q with
  | some (0, x, _, _, n) => match inb i n with
    | true => some (vI (sGet S x j (ix i)) :: r, S)
    | false => none
  | _ => none
def hIscr (scr : Nat × (Nat → Int32)) (i : Int32) (r : List iV) (S : SS) : Option (List iV × SS) := match inb i scr.1 with
  | true => some (vI (scr.2 (ix i)) :: r, S)
  | false => none
def hIald (scr : Nat × (Nat → Int32)) (st : List iV) (S : SS) : Option (List iV × SS) := match st with
  | Sum.inl i :: Sum.inr (Sum.inr (Sum.inl (some (t, j)))) :: r => match Nat.beq t 63 with
    | true => hIscr scr i r S
    | false => hI1 (akO t) i j r S
  | _ => none
def hB1 (q : Option (Nat × Nat × Nat × Nat × Nat)) (i : Int32) (j : Nat) (r : List iV) (S : SS) : Option (List iV × SS) := match q with
  | some (1, x, _, _, n) => match inb i n with
    | true => some (vI (nz (sGet S x j (ix i))) :: r, S)
    | false => none
  | _ => none
def hBald (st : List iV) (S : SS) : Option (List iV × SS) := match st with
  | Sum.inl i :: Sum.inr (Sum.inr (Sum.inl (some (t, j)))) :: r => hB1 (akO t) i j r S
  | _ => none
def hA1 (q : Option (Nat × Nat × Nat × Nat × Nat)) (i : Int32) (j : Nat) (r : List iV) (S : SS) : Option (List iV × SS) := match q with
  | some (2, x, _, _, n) => match inb i n with
    | true => some (vR x (ix i) :: r, S)
    | false => none
  | some (3, x, a, _, n) => match inb i n with
    | true => some (vR x (a * j + ix i) :: r, S)
    | false => none
  | some (4, x, a, b, n) => match inb i n with
    | true => some (vR x (a * j + ix i + b) :: r, S)
    | false => none
  | _ => none
def hAald (st : List iV) (S : SS) : Option (List iV × SS) := match st with
  | Sum.inl i :: Sum.inr (Sum.inr (Sum.inl (some (t, j)))) :: r => hA1 (akO t) i j r S
  | _ => none
def hI2 (q : Option (Nat × Nat × Nat × Nat × Nat)) (v i : Int32) (j : Nat) (r : List iV) (S : SS) : Option (List iV × SS) := match q with
  | some (0, x, _, _, n) => match inb i n with
    | true => some (r, sPut S x j (ix i) v)
    | false => none
  | _ => none
def hIast (st : List iV) (S : SS) : Option (List iV × SS) := match st with
  | Sum.inl v :: Sum.inl i :: Sum.inr (Sum.inr (Sum.inl (some (t, j)))) :: r => hI2 (akO t) v i j r S
  | _ => none
def hB2 (q : Option (Nat × Nat × Nat × Nat × Nat)) (v i : Int32) (j : Nat) (r : List iV) (S : SS) : Option (List iV × SS) := match q with
  | some (1, x, _, _, n) => match inb i n && iIsB v with
    | true => some (r, sPut S x j (ix i) v)
    | false => none
  | _ => none
def hBast (st : List iV) (S : SS) : Option (List iV × SS) := match st with
  | Sum.inl v :: Sum.inl i :: Sum.inr (Sum.inr (Sum.inl (some (t, j)))) :: r => hB2 (akO t) v i j r S
  | _ => none
def hLen (scr : Nat × (Nat → Int32)) (st : List iV) (S : SS) : Option (List iV × SS) := match st with
  | Sum.inr (Sum.inr (Sum.inl (some (t, _)))) :: r => match Nat.beq t 63 with
    | true => some (vI (Int32.ofNat scr.1) :: r, S)
    | false => none
  | _ => none
def hopS (scr : Nat × (Nat → Int32)) (own : Nat) (i : iI) (st : List iV) (S : SS) : Option (List iV × SS) := match i with
  | .getfield k => hGet own k st S
  | .putfield k => hPut own k st S
  | .iaload => hIald scr st S
  | .baload => hBald st S
  | .aaload => hAald st S
  | .iastore => hIast st S
  | .bastore => hBast st S
  | .arraylength => hLen scr st S
  | _ => none
abbrev E0 (scr : Nat × (Nat → Int32)) (d j : Nat) (as : List iV) (S : SS) (o : Option iV × SS) : Prop := Ev (hopS scr) tgT mthT d j as S o
abbrev EB (scr : Nat × (Nat → Int32)) (d own rk : Nat) (cd : List iE) (c : iC) (S : SS) (o : Option iV × SS) : Prop := EvB (hopS scr) tgT mthT d own rk cd c S o
section sRules
variable {scr : Nat × (Nat → Int32)} {d own rk : Nat} {cd : List iE} {pc : Nat} {ls : iL} {r : List iV} {S : SS} {o : Option iV × SS} {i v : Int32} {t j x a b n m k cls fno : Nat} {tx : iX}
theorem ev_hop {c : iC} {q : iI} {st' : List iV} {S' : SS} (hl : iLk cd c.1 = some (q, m, tx)) (hr : iRet rk q c.2.2 = none) (h0 : iStp q tx c = none) (h1 : hopS scr own q c.2.2 S = some (st', S')) (hB : EB scr d own rk cd (c.1 + iLen q, c.2.1, st') S' o) : EB scr d own rk cd c S o :=
  ev_one hl hr (by unfold iOne; rw [h0]; dsimp only; rw [h1]) hB
theorem ev_iald (hl : iLk cd pc = some (.iaload, m, tx)) (ht : Nat.beq t 63 = false) (hk : akO t = some (0, x, a, b, n)) (hg : inb i n = true) (hB : EB scr d own rk cd (pc + 1, ls, vI (sGet S x j (ix i)) :: r) S o) : EB scr d own rk cd (pc, ls, vI i :: vR t j :: r) S o :=
  ev_hop hl rfl rfl (by show (match Nat.beq t 63 with | true => hIscr scr i r S | false => hI1 (akO t) i j r S) = _; rw [ht, hk]; simp only [hI1, hg]) hB
theorem ev_iscr (hl : iLk cd pc = some (.iaload, m, tx)) (hg : inb i scr.1 = true) (hB : EB scr d own rk cd (pc + 1, ls, vI (scr.2 (ix i)) :: r) S o) : EB scr d own rk cd (pc, ls, vI i :: vR 63 j :: r) S o :=
  ev_hop hl rfl rfl (by show hIscr scr i r S = _; simp only [hIscr, hg]) hB
theorem ev_bald (hl : iLk cd pc = some (.baload, m, tx)) (hk : akO t = some (1, x, a, b, n)) (hg : inb i n = true) (hB : EB scr d own rk cd (pc + 1, ls, vI (nz (sGet S x j (ix i))) :: r) S o) : EB scr d own rk cd (pc, ls, vI i :: vR t j :: r) S o :=
  ev_hop hl rfl rfl (by show hB1 (akO t) i j r S = _; rw [hk]; simp only [hB1, hg]) hB
theorem ev_aald2 (hl : iLk cd pc = some (.aaload, m, tx)) (hk : akO t = some (2, x, a, b, n)) (hg : inb i n = true) (hB : EB scr d own rk cd (pc + 1, ls, vR x (ix i) :: r) S o) : EB scr d own rk cd (pc, ls, vI i :: vR t j :: r) S o :=
  ev_hop hl rfl rfl (by show hA1 (akO t) i j r S = _; rw [hk]; simp only [hA1, hg]) hB
theorem ev_aald3 (hl : iLk cd pc = some (.aaload, m, tx)) (hk : akO t = some (3, x, a, b, n)) (hg : inb i n = true) (hB : EB scr d own rk cd (pc + 1, ls, vR x (a * j + ix i) :: r) S o) : EB scr d own rk cd (pc, ls, vI i :: vR t j :: r) S o :=
  ev_hop hl rfl rfl (by show hA1 (akO t) i j r S = _; rw [hk]; simp only [hA1, hg]) hB
theorem ev_aald4 (hl : iLk cd pc = some (.aaload, m, tx)) (hk : akO t = some (4, x, a, b, n)) (hg : inb i n = true) (hB : EB scr d own rk cd (pc + 1, ls, vR x (a * j + ix i + b) :: r) S o) : EB scr d own rk cd (pc, ls, vI i :: vR t j :: r) S o :=
  ev_hop hl rfl rfl (by show hA1 (akO t) i j r S = _; rw [hk]; simp only [hA1, hg]) hB
theorem ev_iast (hl : iLk cd pc = some (.iastore, m, tx)) (hk : akO t = some (0, x, a, b, n)) (hg : inb i n = true) (hB : EB scr d own rk cd (pc + 1, ls, r) (sPut S x j (ix i) v) o) : EB scr d own rk cd (pc, ls, vI v :: vI i :: vR t j :: r) S o :=
  ev_hop hl rfl rfl (by show hI2 (akO t) v i j r S = _; rw [hk]; simp only [hI2, hg]) hB
theorem ev_bast (hl : iLk cd pc = some (.bastore, m, tx)) (hk : akO t = some (1, x, a, b, n)) (hg : inb i n = true) (hv : iIsB v = true) (hB : EB scr d own rk cd (pc + 1, ls, r) (sPut S x j (ix i) v) o) : EB scr d own rk cd (pc, ls, vI v :: vI i :: vR t j :: r) S o :=
  ev_hop hl rfl rfl (by show hB2 (akO t) v i j r S = _; rw [hk]; simp only [hB2, hg, hv, Bool.and_self]) hB
theorem ev_putz (hl : iLk cd pc = some (.putfield k, m, tx)) (hk : flO own k = some (cls, fno, 1, x, a, b)) (ht : Nat.beq t cls = true) (hv : iIsB v = true) (hB : EB scr d own rk cd (pc + 3, ls, r) (sPut S x j 0 v) o) : EB scr d own rk cd (pc, ls, vI v :: vR t j :: r) S o :=
  ev_hop hl rfl rfl (by show hP1 (flO own k) t v j r S = _; rw [hk]; simp only [hP1, ht, hv]) hB
end sRules
theorem isB_nz (x : Int32) : iIsB (nz x) = true := by
  unfold nz
  split
  · rfl
  · rfl
/-! what the functions are made of -/
theorem ifg {α : Type} {c : Prop} {_ : Decidable c} {a : Option α} {x : α} (h : (if c then a else none) = some x) : c ∧ a = some x := by
  split at h
  · exact ⟨‹_›, h⟩
  · cases h
def bd {α β : Type} (o : Option α) (f : α → Option β) : Option β := match o with
  | none => none
  | some a => f a
theorem bd_some {α β : Type} {o : Option α} {f : α → Option β} {x : β} (h : bd o f = some x) : ∃ a, o = some a ∧ f a = some x := by
  unfold bd at h
  split at h
  · cases h
  · exact ⟨_, rfl, h⟩
def bd2 {α β γ : Type} (o : Option (α × β)) (f : α → β → Option γ) : Option γ := match o with
  | none => none
  | some (a, b) => f a b
theorem bd2_some {α β γ : Type} {o : Option (α × β)} {f : α → β → Option γ} {x : γ} (h : bd2 o f = some x) : ∃ a b, o = some (a, b) ∧ f a b = some x := by
  unfold bd2 at h
  split at h
  · cases h
  · exact ⟨_, _, rfl, h⟩
/-- out of a loop -/
def exW {σ ρ : Type} (o : Option ρ) : Option (σ ⊕ ρ) := match o with
  | none => none
  | some r => some (Sum.inr r)
theorem exW_some {σ ρ : Type} {o : Option ρ} {x : σ ⊕ ρ} (h : exW o = some x) : ∃ r, o = some r ∧ x = Sum.inr r := by
  unfold exW at h
  split at h
  · cases h
  · exact ⟨_, rfl, (Option.some.inj h).symm⟩
def iter {σ ρ : Type} (body : σ → Option (σ ⊕ ρ)) : Nat → σ → Option ρ
  | 0, _ => none
  | n + 1, s => match body s with
    | none => none
    | some (Sum.inl s') => iter body n s'
    | some (Sum.inr r) => some r
theorem iter_ind {σ ρ : Type} {body : σ → Option (σ ⊕ ρ)} {P : σ → Prop} {G : ρ → Prop} (hb : ∀ s x, body s = some x → Sum.elim P G x → P s) : ∀ {n : Nat} {s : σ} {r : ρ}, iter body n s = some r → G r → P s := by
  intro n
  induction n with
  | zero => intro s r h; cases h
  | succ n ih =>
    intro s r h hG
    unfold iter at h
    split at h
    · cases h
    · rename_i s' hs
      exact hb s _ hs (ih h hG)
    · rename_i r' hs
      cases h
      exact hb s _ hs hG
theorem ifn {α : Type} {c : Prop} {_ : Decidable c} {a : Option α} {x : α} (h : (if c then none else a) = some x) : ¬ c ∧ a = some x := by
  split at h
  · cases h
  · exact ⟨‹_›, h⟩
def iNo : List Int → Int → Prop
  | [], _ => True
  | k :: ks, x => ¬ x = k ∧ iNo ks x
theorem iPick_no : ∀ (ks : List Int) (ts : List Nat) (d : Nat) (x : Int), iNo ks x → iPick ks ts d x = d := by
  intro ks
  induction ks with
  | nil => intro ts d x _; rfl
  | cons k ks ih =>
    intro ts d x h
    cases ts with
    | nil => rfl
    | cons t ts =>
      have h1 : ¬ x = k := h.1
      simp only [iPick, h1, decide_false]
      exact ih ts d x h.2
theorem sw_ne {x v : Int32} {k : Int} (h : ¬ x = v) (hv : v.toInt = k) : ¬ x.toInt = k := lv_neT h hv
section sRules2
variable {scr : Nat × (Nat → Int32)} {d own rk : Nat} {cd : List iE} {pc : Nat} {ls : iL} {r : List iV} {S : SS} {o : Option iV × SS} {x v z a b : Int32} {t dt n : Nat} {tr : List Nat} {dd lo hi : Int} {offs : Array Int} {tx : iX}
theorem ev_swk (hl : iLk cd pc = some (.tableswitch dd lo hi offs, n, dt :: tr, z)) (hx : x = v) (hp : iPick (iKeys lo offs.size) tr dt v.toInt = t) (hB : EB scr d own rk cd (t, ls, r) S o) : EB scr d own rk cd (pc, ls, vI x :: r) S o :=
  ev_stp (c' := (t, ls, r)) hl rfl (by subst hx; show some (iPick (iKeys lo offs.size) tr dt x.toInt, ls, r) = _; rw [hp]) hB
theorem ev_swd (hl : iLk cd pc = some (.tableswitch dd lo hi offs, n, dt :: tr, z)) (hx : iNo (iKeys lo offs.size) x.toInt) (hB : EB scr d own rk cd (dt, ls, r) S o) : EB scr d own rk cd (pc, ls, vI x :: r) S o :=
  ev_stp (c' := (dt, ls, r)) hl rfl (by show some (iPick (iKeys lo offs.size) tr dt x.toInt, ls, r) = _; rw [iPick_no _ _ _ _ hx]) hB
theorem ev_retb (hl : iLk cd pc = some (.ireturn, n, tx)) (hb : iIsB x = true) : EB scr d own 2 cd (pc, ls, [vI x]) S (some (vI x), S) :=
  ev_ret hl (by simp only [iRet, hb])
theorem ev_div (hl : iLk cd pc = some (.idiv, n, tx)) (hg : ¬ b = 0) (hB : EB scr d own rk cd (pc + 1, ls, vI (a / b) :: r) S o) : EB scr d own rk cd (pc, ls, vI b :: vI a :: r) S o :=
  ev_stp (c' := (pc + 1, ls, vI (a / b) :: r)) hl rfl (by simp only [iStp, iDiv, decide_eq_false hg]) hB
theorem ev_divr (hl : iLk cd pc = some (.irem, n, tx)) (hg : ¬ b = 0) (hB : EB scr d own rk cd (pc + 1, ls, vI (iRem a b) :: r) S o) : EB scr d own rk cd (pc, ls, vI b :: vI a :: r) S o :=
  ev_stp (c' := (pc + 1, ls, vI (iRem a b) :: r)) hl rfl (by simp only [iStp, iDiv, decide_eq_false hg]) hB
end sRules2
