/-! What the calls do to the model. -/
/-- how many of the k numbers behind a have it -/
def cntN (f : Nat → Bool) (a : Nat) : Nat → Nat
  | 0 => 0
  | k + 1 => cntN f a k + (if f (a + k + 1) = true then 1 else 0)
/-- the first of the k numbers behind a that has it, or the one behind them all -/
def fstN (f : Nat → Bool) (a : Nat) : Nat → Nat
  | 0 => a + 1
  | k + 1 => if f (a + 1) = true then a + 1 else fstN f (a + 1) k
def anyN (f : Nat → Bool) (a : Nat) : Nat → Bool
  | 0 => false
  | k + 1 => anyN f a k || f (a + k + 1)
def m_post (A : MA) (r : Nat) (q : Pkt) : MA := if (aP A r).length = 8 then A else uP A (up1 (aP A) r (aP A r ++ [q]))
def m_take (A : MA) (r : Nat) : MA := uP A (up1 (aP A) r (aP A r).tail)
def m_dup (A : MA) (r : Nat) : MA := uP A (up1 (aP A) r (aP A r ++ (aP A r).take 1))
def sumR : List RM → Int32
  | [] => 0
  | q :: l => I q.2.2 + sumR l
def m_eI (A : MA) (e i : Nat) : Int32 := if i = 10 then sumR (aR A e) else if i = 5 then I (gN A 1) else if i = 4 then 0 else if i = 7 then 0 else if i = 6 then 0 else aI A e i
def m_eN (A : MA) (e i : Nat) : Nat := if i = 2 then 0 else if i = 10 then 3 else if i = 8 then 2 else if i = 9 then 3 else if i = 7 then 2 else if i = 18 then 0 else if i = 15 then 0 else if i = 17 then 0 else if i = 14 then 0 else if i = 16 then 0 else if i = 13 then 0 else if i = 5 then 0 else if i = 22 then 0 else if i = 4 then 0 else if i = 3 then 0 else aN A e i
def m_eB (A : MA) (e i : Nat) : Bool := if i = 5 then false else if i = 3 then false else if i = 1 then true else if i = 4 then false else if i = 2 then false else if i = 0 then true else aB A e i
def m_empty (A : MA) (e : Nat) : MA := (fun x i => if x = e then m_eI A e i else aI A x i, fun x i => if x = e then m_eN A e i else aN A x i, fun x i => if x = e then m_eB A e i else aB A x i, aO A, fun x k n => if x = e ∧ k < 2 ∧ n < 544 then false else aH A x k n, A.2.2.2.2.2)
def m_comeUp (A : MA) (e : Nat) (o t : Int32) : MA := m_empty (sI (sI (sI A e 0 3) e 1 o) e 2 t) e
def m_close (A : MA) (e : Nat) (why : Int32) : MA := m_empty (sI (sI (sI (sI A e 0 0) e 1 0) e 2 0) e 3 why) e
def m_ptu (A : MA) (e : Nat) : Nat := if aB A e (aN A e 2) = true ∨ aB A e (1 - aN A e 2) = false then aN A e 2 else 1 - aN A e 2
abbrev oSt (A : MA) (e n : Nat) : Int32 := (aO A e n).2.1
abbrev oPa (A : MA) (e n : Nat) : Nat := (aO A e n).2.2.1
abbrev oSk (A : MA) (e n : Nat) : Nat := (aO A e n).2.2.2
abbrev oWd (A : MA) (e n : Nat) : WC := (aO A e n).1
abbrev m_len (A : MA) (e : Nat) : Nat := aN A e 4 - aN A e 3
def cOut (A : MA) (e p : Nat) : Nat := cntN (fun n => decide (oSt A e n = 2) && Nat.beq (oPa A e n) p) (aN A e 3) (m_len A e)
def cSt (A : MA) (e : Nat) (k : Int32) : Nat := cntN (fun n => decide (oSt A e n = k)) (aN A e 3) (m_len A e)
def isTS (A : MA) (e n : Nat) : Bool := decide (oSt A e n = 1) || decide (oSt A e n = 3)
def m_fst (A : MA) (e : Nat) : Nat := fstN (isTS A e) (aN A e 3) (m_len A e)
def m_path (A : MA) (e n : Nat) : Nat := if oSt A e n ≠ 1 ∧ aB A e (1 - oPa A e n) = true then 1 - oPa A e n else m_ptu A e
def m_und (A : MA) (e : Nat) : Nat := cSt A e 2 + cSt A e 3
def m_may (A : MA) (e n p : Nat) : Bool := decide (cOut A e p < aN A e (7 + p) ∧ (oSt A e n = 1 → I (m_und A e) < aI A e 5 ∨ m_und A e = 0))
def m_timer (A : MA) (e p : Nat) : MA := if aB A e (2 + p) = true then A else sN (sB A e (2 + p) true) e (11 + p) (gN A 0 + aN A e (9 + p))
def m_out (A : MA) (e n p : Nat) : MA := m_timer (uO (m_post A (2 * e + p) (pdat (aI A e 2) n (oWd A e n))) (up2 (aO A) e n (oWd A e n, 2, p, 0))) e p
def m_sendOne (A : MA) (e : Nat) : Option MA := if aN A e 4 < m_fst A e then none else if m_may A e (m_fst A e) (m_path A e (m_fst A e)) = true then some (m_out A e (m_fst A e) (m_path A e (m_fst A e))) else none
def m_sendAll (e : Nat) : Nat → MA → MA
  | 0, A => A
  | k + 1, A => match m_sendOne A e with
    | none => A
    | some A' => m_sendAll e k A'
def m_addW (A : MA) (e : Nat) (w : WC) : MA := sN (uO A (up2 (aO A) e (aN A e 4 + 1) (w, 1, 0, 0))) e 4 (aN A e 4 + 1)
def m_addM (A : MA) (e s o : Nat) (lo : Bool) (v : Int32) (m : Nat) : Nat → MA
  | 0 => A
  | k + 1 => m_addW (m_addM A e s o lo v m k) e (v + I k, s, o, Nat.beq k 0, Nat.beq (k + 1) m, lo)
def m_add (A : MA) (e s : Nat) (lo : Bool) (v : Int32) (m : Nat) : MA := match lo with
  | true => m_addM A e s 0 true v m m
  | false => sN (m_addM A e s (aN A e (13 + s)) false v m m) e (13 + s) (aN A e (13 + s) + 1)
def m_send (A : MA) (e s : Nat) (lo : Bool) (v : Int32) (m : Nat) : MA := m_sendAll e 64 (m_add A e s lo v m)
/-! Making a connection. -/
def kTag (k c : Int32) : Int32 := if c = f_M_mixed (-2128831035) k then f_M_mixed (-2128831035) k else c ^^^ f_M_mixed (-2128831035) k
def kSeal (k c s t : Int32) : Int32 := f_M_mixed (f_M_mixed (f_M_mixed (f_M_mixed (f_M_mixed (-2128831035) k) c) s) t) 7
def m_tries (A : MA) (e : Nat) : MA := sN (sN A e 0 1) e 1 (gN A 0 + 3)
def m_start (A : MA) (tag : Int32) : MA := m_tries (m_post (sI (sI (uGT A (up1 (gT A) 0 (gT A 0 ++ [tag]))) 0 0 1) 0 1 tag) 0 (pkt 0 0 tag 0 0 0 0)) 0
def m_echoP (A : MA) (e : Nat) : Pkt := pkt (aI A e 2) 2 0 (gI A 0) (gI A 1) (gI A 2) (gI A 3)
def m_init (A : MA) (p : Nat) (tag : Int32) : MA := m_post A (2 + p) (pkt tag 1 (kTag (gI A 4) tag) tag (kTag (gI A 4) tag) (I (gN A 0)) (kSeal (gI A 4) tag (kTag (gI A 4) tag) (I (gN A 0))))
def m_ck (A : MA) (q : Nat → Int32) : MA := uGI A (fun k => if k < 4 then q (3 + k) else gI A k)
def m_iack (A : MA) (p : Nat) (q : Nat → Int32) : MA :=
  let B := sI (m_ck (sI A 0 2 (q 2)) q) 0 0 2
  m_tries (m_post B p (m_echoP B 0)) 0
def m_right (A : MA) (q : Nat → Int32) : Bool := decide (q 6 = kSeal (gI A 4) (q 3) (q 4) (q 5) ∧ q 3 ≠ 0 ∧ q 4 = kTag (gI A 4) (q 3) ∧ q 0 = q 4 ∧ ¬ lg_cmp (Int32.toInt64 (I (gN A 0)) - Int32.toInt64 (q 5)) (Int64.ofNat 0) < 0 ∧ ¬ 0 < lg_cmp (Int32.toInt64 (I (gN A 0)) - Int32.toInt64 (q 5)) (Int32.toInt64 20))
def m_echo1 (A : MA) (q : Nat → Int32) : MA := if aI A 1 0 = 0 ∧ q 4 ∉ gT A 1 then m_comeUp (uGT A (up1 (gT A) 1 (gT A 1 ++ [q 4]))) 1 (q 4) (q 3) else A
def m_echo2 (A : MA) (p : Nat) (q : Nat → Int32) : MA := if aI A 1 1 = q 4 ∧ aI A 1 2 = q 3 then m_post A (2 + p) (pkt (aI A 1 2) 3 0 0 0 0 0) else A
def m_echo (A : MA) (p : Nat) (q : Nat → Int32) : MA := if m_right A q = true then m_echo2 (m_echo1 A q) p q else A
/-! What comes when the end is up. -/
def bitS (g : Int32) (k : Nat) : Bool := decide (iShr g (I k) &&& 1 = 1)
def topB (g : Int32) : Nat → Nat
  | 0 => 0
  | k + 1 => if bitS g k = true then k else topB g k
def m_beatAck (A : MA) (e p : Nat) (t : Int32) : MA := if aB A e (4 + p) = true ∧ aI A e (8 + p) = t then sI (sI (sB (sB A e (4 + p) false) e p true) e (6 + p) 0) e 4 0 else A
def isOM (A : MA) (e n : Nat) : Bool := decide (oSt A e n = 2) || decide (oSt A e n = 3)
def m_ack (c : Nat) (g : Int32) (n : Nat) : Bool := decide (n ≤ c) || (decide (n - c - 1 < 16) && bitS g (n - c - 1))
def m_good (A : MA) (e c : Nat) (g : Int32) (p : Nat) : Bool := anyN (fun n => (m_ack c g n && isOM A e n) && Nat.beq (oPa A e n) p) (aN A e 3) (m_len A e)
def m_hold (A : MA) (e c : Nat) (g : Int32) : MA := uO A (fun x n => if x = e ∧ m_ack c g n = true ∧ isOM A e n = true then (oWd A e n, 4, oPa A e n, oSk A e n) else aO A x n)
def m_rew (A : MA) (e p : Nat) (b : Bool) : MA := match b with
  | true => sB (sN (sN (sI (sI A e (6 + p) 0) e 4 0) e (9 + p) 3) e (7 + p) (min 8 (aN A e (7 + p) + 1))) e p true
  | false => A
def m_str1 (A : MA) (e n : Nat) : MA := if n ≤ aN A e 4 ∧ oSt A e n = 2 then (if oSk A e n + 1 = 3 then sN (uO A (up2 (aO A) e n (oWd A e n, 3, oPa A e n, 0))) e (7 + oPa A e n) (max 1 (aN A e (7 + oPa A e n) / 2)) else uO A (up2 (aO A) e n (oWd A e n, 2, oPa A e n, oSk A e n + 1))) else A
def m_strk (A : MA) (e : Nat) : Nat → MA
  | 0 => A
  | k + 1 => m_str1 (m_strk A e k) e (aN A e 3 + k + 1)
def m_set1 (A : MA) (e p : Nat) (b : Bool) : MA := if cOut A e p = 0 then sB A e (2 + p) false else match b with
  | true => sN A e (11 + p) (gN A 0 + aN A e (9 + p))
  | false => A
def m_sack1 (A : MA) (e c : Nat) (g w : Int32) : MA := sI (sN (sN (m_hold A e c g) e 22 c) e 3 c) e 5 w
def m_sack2 (A : MA) (e c : Nat) (g w : Int32) : MA :=
  let B := m_rew (m_rew (m_sack1 A e c g w) e 0 (m_good A e c g 0)) e 1 (m_good A e c g 1)
  let C := m_strk B e (topB g 16)
  m_set1 (m_set1 C e 0 (m_good A e c g 0)) e 1 (m_good A e c g 1)
def m_sack (A : MA) (e c : Nat) (g w : Int32) : MA := m_sendAll e 64 (m_sack2 A e c g w)
/-! The inbox. -/
def m_has (A : MA) (e n : Nat) : Bool := decide (n ≤ aN A e 5) || (decide (n ≤ aN A e 5 + 16) && aH A e 0 n)
def m_drop (A : MA) (e n : Nat) : Bool := decide (n < 1 ∨ m_has A e n = true ∨ aN A e 5 + 16 < n ∨ (¬ aI A e 10 < I (gN A 1) ∧ n ≠ aN A e 5 + 1))
def m_put (A : MA) (e n : Nat) (w : WC) : MA := sI (uW (uH A (fun x k i => if x = e ∧ k < 2 ∧ i = n then true else aH A x k i)) (up2 (aW A) e n w)) e 10 (aI A e 10 + 1)
def runN (f : Nat → Bool) (a : Nat) : Nat → Nat
  | 0 => a
  | k + 1 => if f (a + 1) = true then runN f (a + 1) k else a
def m_late (A : MA) (e : Nat) : MA := sN A e 5 (runN (aH A e 0) (aN A e 5) 544)
/-- how long the held message is that begins with n, of at most k words; 0 if it is not whole -/
def whlN (A : MA) (e n : Nat) : Nat → Nat → Nat
  | 0, _ => 0
  | k + 1, i => if aH A e 1 (n + i) = true then (if (aW A e (n + i)).2.2.2.2.1 = true then i + 1 else whlN A e n k (i + 1)) else 0
def m_whl (A : MA) (e n : Nat) : Nat := whlN A e n (aN A e 5 + 17 - n) 0
def m_cand (A : MA) (e n : Nat) : Bool := (aH A e 1 n && (aW A e n).2.2.2.1) && (decide (0 < m_whl A e n) && ((aW A e n).2.2.2.2.2 || Nat.beq (aW A e n).2.2.1 (aN A e (16 + (aW A e n).2.1))))
def m_move (A : MA) (e n m : Nat) : MA :=
  let w := aW A e n
  let B := if w.2.2.2.2.2 = true then A else sN A e (16 + w.2.1) (aN A e (16 + w.2.1) + 1)
  sN (uR (uH B (fun x k i => if x = e ∧ k = 1 ∧ n ≤ i ∧ i < n + m then false else aH A x k i)) (up1 (aR A) e (aR A e ++ [(w.2.1, w.1, m)]))) e (23 + w.2.1) (aN A e (23 + w.2.1) + 1)
def m_rdy1 (A : MA) (e : Nat) : Option MA := if fstN (m_cand A e) 0 (aN A e 5 + 16) ≤ aN A e 5 + 16 then some (m_move A e (fstN (m_cand A e) 0 (aN A e 5 + 16)) (m_whl A e (fstN (m_cand A e) 0 (aN A e 5 + 16)))) else none
def m_rdy (e : Nat) : Nat → MA → MA
  | 0, A => A
  | k + 1, A => match m_rdy1 A e with
    | none => A
    | some A' => m_rdy e k A'
def gapB (f : Nat → Bool) (a : Nat) : Nat → Int32
  | 0 => 0
  | k + 1 => if f (a + 1 + k) = true then gapB f a k ||| iShl 1 (I k) else gapB f a k
def m_free (A : MA) (e : Nat) : Int32 := if I (gN A 1) - aI A e 10 < 0 then 0 else I (gN A 1) - aI A e 10
def m_sackP (A : MA) (e : Nat) : Pkt := (P8 (aI A e 2) 5 (I (aN A e 5)) (gapB (aH A e 0) (aN A e 5) 16) (m_free A e) 0 0, aN A e 5, w0)
def m_get (A : MA) (e n : Nat) (w : WC) : MA := if m_drop A e n = true then A else m_rdy e 544 (m_late (m_put A e n w) e)
def m_data (A : MA) (e p n : Nat) (w : WC) : MA := m_post (m_get A e n w) (2 * e + p) (m_sackP (m_get A e n w) e)
/-- the Nat that a SACK tells; none below 0 -/
def m_hear (A : MA) (e p : Nat) (q : Pkt) : MA :=
  if q.1 1 = 4 then m_data A e p q.2.1 q.2.2
  else if q.1 1 = 5 then (if q.2.1 < aN A e 22 ∨ aN A e 4 < q.2.1 then A else m_sack A e q.2.1 (q.1 3) (q.1 4))
  else if q.1 1 = 6 then m_post A (2 * e + p) (pkt (aI A e 2) 7 (q.1 2) 0 0 0 0)
  else if q.1 1 = 7 then m_beatAck A e p (q.1 2)
  else if q.1 1 = 8 then m_close A e 3 else A
def m_dlv (A : MA) (at' p : Nat) (q : Pkt) : MA :=
  if q.1 1 = 0 then (if at' = 1 ∧ q.1 2 ≠ 0 then m_init A p (q.1 2) else A)
  else if q.1 1 = 2 then (if at' = 1 then m_echo A p q.1 else A)
  else if q.1 0 = aI A at' 1 ∧ q.1 1 = 1 then (if at' = 0 ∧ aI A 0 0 = 1 then m_iack A p q.1 else A)
  else if q.1 0 = aI A at' 1 ∧ q.1 1 = 3 then (if at' = 0 ∧ aI A 0 0 = 2 then m_comeUp A 0 (aI A 0 1) (aI A 0 2) else A)
  else if q.1 0 = aI A at' 1 ∧ aI A at' 0 = 3 then m_hear A at' p q else A
/-! Time. -/
def m_fail (A : MA) (e p : Nat) : MA :=
  let B := sI (sI A e (6 + p) (aI A e (6 + p) + 1)) e 4 (aI A e 4 + 1)
  let C := sB B e p (aB A e p && decide (aI A e (6 + p) + 1 < 3))
  if I (gN A 2) < aI A e 4 + 1 then m_close (m_post C (2 * e + m_ptu C e) (pkt (aI A e 2) 8 0 0 0 0 0)) e 1 else C
def m_again (A : MA) (e : Nat) : MA :=
  if aN A e 0 = gN A 2 then m_close A e 2 else
  let B := sN (sN A e 0 (aN A e 0 + 1)) e 1 (gN A 0 + 3)
  m_post B (2 * e + (aN A e 0 + 1) % 2) (if aI A e 0 = 1 then pkt 0 0 (aI A e 1) 0 0 0 0 else m_echoP A e)
def m_mark (A : MA) (e p : Nat) : MA := uO A (fun x n => if x = e ∧ oSt A e n = 2 ∧ oPa A e n = p then (oWd A e n, 3, p, oSk A e n) else aO A x n)
def m_late1 (A : MA) (e p : Nat) : MA := sB (sN (sN (m_mark A e p) e (7 + p) 1) e (9 + p) (min 24 (aN A e (9 + p) * 2))) e (2 + p) false
def m_beat (A : MA) (e p : Nat) : MA := m_post (sI (sB A e (4 + p) true) e (8 + p) (I (gN A 0))) (2 * e + p) (pkt (aI A e 2) 6 (I (gN A 0)) 0 0 0 0)
def m_tickP (A : MA) (e p : Nat) : MA :=
  if aB A e (2 + p) = true ∧ aN A e (11 + p) = gN A 0 then m_fail (m_late1 A e p) e p
  else if gN A 0 % 8 = 0 ∧ cOut A e p = 0 then
    let B := if aB A e (4 + p) = true then m_fail A e p else A
    if aI B e 0 = 3 then m_beat B e p else B
  else A
def m_up (A : MA) (e : Nat) (f : MA → MA) : MA := if aI A e 0 = 3 then f A else A
def m_tickE (A : MA) (e : Nat) : MA :=
  if (aI A e 0 = 1 ∨ aI A e 0 = 2) ∧ gN A 0 = aN A e 1 then m_again A e
  else if aI A e 0 = 3 then m_up (m_up (m_tickP A e 0) e (fun B => m_tickP B e 1)) e (m_sendAll e 64) else A
def m_tick (A : MA) : MA := m_tickE (m_tickE (uGN A (up1 (gN A) 0 (gN A 0 + 1))) 0) 1
/-! What is asked. -/
def m_pop (A : MA) (e s : Nat) : MA := match (aR A e).find? (isS s) with
  | none => A
  | some q => sI (sN (uR A (up1 (aR A) e ((aR A e).eraseP (isS s)))) e (19 + s) (aN A e (19 + s) + 1)) e 10 (aI A e 10 - I q.2.2)
def m_abort (A : MA) (e : Nat) : MA := m_close (if aI A e 0 = 3 then m_post A (2 * e + m_ptu A e) (pkt (aI A e 2) 8 0 0 0 0 0) else A) e 3
