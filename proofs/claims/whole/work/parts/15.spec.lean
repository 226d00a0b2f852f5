/-! the abstract state: tables of ints, tables of longs -/
abbrev St := (Nat → Nat → Int32) × (Nat → Nat → Int64)
def sI (σ : St) (t i : Nat) (v : Int32) : St := (fun u => if u = t then upd (σ.1 t) i v else σ.1 u, σ.2)
def sJ (σ : St) (t i : Nat) (v : Int64) : St := (σ.1, fun u => if u = t then vp_updL (σ.2 t) i v else σ.2 u)
def sA (σ : St) (t : Nat) (f : Nat → Int32) : St := (fun u => if u = t then f else σ.1 u, σ.2)
def sB (σ : St) (t : Nat) (f : Nat → Int64) : St := (σ.1, fun u => if u = t then f else σ.2 u)
def rf (σ : St) (w : Int32) : St := (fun u => if u = 0 then fun _ => w else if u = 1 then rfO w (σ.1 1) else σ.1 u, σ.2)
def ok0 (σ : St) : St := sA σ 0 (fun _ => 0)
abbrev ix (i : Int32) : Nat := i.toNatClampNeg
abbrev cN (σ : St) (j : Nat) : Nat := (σ.1 2 j).toNatClampNeg
abbrev inC (σ : St) (j : Nat) (i : Int32) : Bool := fX8_isIn i 0 (σ.1 2 j - 1)
def bnd (c : Int32) (n : Int) : Prop := 0 ≤ c.toInt ∧ c.toInt ≤ n
def oW (k : Int32) (t q : Int64) : Prop := (k = 2 ∨ k = 3) ∧ okR k t ∧ (¬ mgN k t = 0) ∧ okR k q ∧ ¬ mgN k q = infN k
def oS (k n : Int32) (f : Nat → Int64) : Prop := isK k ∧ bnd n 16 ∧ ∀ j, j < 16 → okB k (f j)
def oP (k w c : Int32) : Prop := isK k ∧ 0 ≤ w.toInt ∧ w.toInt < c.toInt
def oT (k n c : Int32) (f : Nat → Int32) : Prop := isK k ∧ (1 ≤ n.toInt ∧ n.toInt ≤ 6) ∧ ∀ j, j < 6 → f j = -1 ∨ (0 ≤ (f j).toInt ∧ (f j).toInt < c.toInt)
def vC (σ : St) : Prop := bnd (σ.1 2 0) 10 ∧ bnd (σ.1 2 1) 16 ∧ bnd (σ.1 2 2) 8 ∧ bnd (σ.1 2 3) 12 ∧ bnd (σ.1 2 4) 8
def vW (σ : St) : Prop := ∀ i, i < cN σ 0 → oW (σ.1 3 i) (σ.2 0 i) (σ.2 1 i)
def vR (σ : St) : Prop := ∀ i, i < cN σ 1 → isK (σ.1 4 i) ∧ okB (σ.1 4 i) (σ.2 2 i)
def vS (σ : St) : Prop := ∀ i, i < cN σ 2 → oS (σ.1 5 i) (σ.1 6 i) (fun j => σ.2 3 (16 * i + j))
def vP (σ : St) : Prop := ∀ i, i < cN σ 3 → oP (σ.1 8 i) (σ.1 9 i) (σ.1 2 0)
def vT (σ : St) : Prop := ∀ i, i < cN σ 4 → oT (σ.1 10 i) (σ.1 11 i) (σ.1 2 3) (fun j => σ.1 12 (6 * i + j))
def vOK (σ : St) : Prop := vC σ ∧ vW σ ∧ vR σ ∧ vS σ ∧ vP σ ∧ vT σ
/-- what the model's numbers are to the state -/
def mC (σ : St) (aTo aPo : Nat → UInt64) (aRw : Nat → Int64) (aRr : Nat → UInt64) (aWs : Nat → Int64) (aRs : Nat → UInt64) : Prop :=
  (∀ i, i < cN σ 0 → aTo i = vl (σ.1 3 i) (σ.2 0 i) ∧ aPo i = vl (σ.1 3 i) (σ.2 1 i)) ∧ (∀ i, i < cN σ 1 → rep (σ.1 4 i) (σ.2 2 i) (aRw i) (aRr i)) ∧
  ∀ i, i < cN σ 2 → ∀ j, j < 16 → rep (σ.1 5 i) (σ.2 3 (16 * i + j)) (aWs (16 * i + j)) (aRs (16 * i + j))
abbrev mG (m0 : Nat) (a : Nat → Nat) (y : Nat → ClassId) (σ : St) (kd : Int32) (wh : Int64) (re : UInt64) (aTo aPo : Nat → UInt64) (aRw : Nat → Int64) (aRr : Nat → UInt64) (aWs : Nat → Int64) (aRs : Nat → UInt64) : va_W :=
  mW m0 a y (σ.1 0 0) kd (σ.1 2 0) (σ.1 2 1) (σ.1 2 2) (σ.1 2 3) (σ.1 2 4) wh re (σ.1 1) (σ.1 3) aTo aPo (σ.1 4) aRw aRr (σ.1 5) (σ.1 6) (σ.1 7) aWs aRs (σ.1 8) (σ.1 9) (σ.1 10) (σ.1 11) (σ.1 12)
def MI (m0 : Nat) (a : Nat → Nat) (y : Nat → ClassId) (σ : St) (u : va_W) : Prop := ∃ (kd : Int32) (wh : Int64) (re : UInt64) (aTo aPo : Nat → UInt64) (aRw : Nat → Int64) (aRr : Nat → UInt64) (aWs : Nat → Int64) (aRs : Nat → UInt64),
  u = mG m0 a y σ kd wh re aTo aPo aRw aRr aWs aRs ∧ mC σ aTo aPo aRw aRr aWs aRs
/-! what each call answers, and leaves -/
def wh_wheel (σ : St) (k : Int32) (t : Int64) : Int32 := if fX8_isIn k 2 3 = true then (if fX8_isNumber t = true then (if mgN k (cst 3 t k) = 0 then -2 else if σ.1 2 0 = 10 then -3 else 0) else -2) else -2
def an_wheel (σ : St) (k : Int32) (t : Int64) : Int32 := if wh_wheel σ k t = 0 then σ.1 2 0 else wh_wheel σ k t
def nw_wheel (σ : St) (k : Int32) (t : Int64) : St := if wh_wheel σ k t = 0 then sI (sJ (sJ (sI (ok0 σ) 3 (cN σ 0) k) 0 (cN σ 0) (cst 3 t k)) 1 (cN σ 0) 0) 2 0 (σ.1 2 0 + 1) else rf σ (wh_wheel σ k t)
def suB (σ : St) (w : Int32) (t : Int64) : Int64 := wkB (σ.1 3 (ix w)) 0 (σ.2 1 (ix w)) (cst 3 t (σ.1 3 (ix w)))
def wh_turn (σ : St) (w : Int32) (t : Int64) : Int32 := if inC σ 0 w = true then (if fX8_isNumber t = true then (if mgN (σ.1 3 (ix w)) (suB σ w t) = infN (σ.1 3 (ix w)) then -4 else 0) else -2) else -2
def an_turn (σ : St) (w : Int32) (t : Int64) : Int32 := if wh_turn σ w t = 0 then FP.d2i (vl (σ.1 3 (ix w)) (wkB (σ.1 3 (ix w)) 3 (suB σ w t) (σ.2 0 (ix w)))) else 0
def nw_turn (σ : St) (w : Int32) (t : Int64) : St := if wh_turn σ w t = 0 then sJ (ok0 σ) 1 (ix w) (rmB (σ.1 3 (ix w)) (suB σ w t) (σ.2 0 (ix w))) else rf σ (wh_turn σ w t)
def wh_wheelOf (σ : St) (w h : Int32) : Int32 := if inC σ 0 w = true then (if fX8_isIn h 0 1 = true then 0 else -2) else -2
def an_wheelOf (σ : St) (w h : Int32) : Int64 := if wh_wheelOf σ w h = 0 then (if h = 0 then σ.2 1 (ix w) else σ.2 0 (ix w)) else 0
def nw_wheelOf (σ : St) (w h : Int32) : St := if wh_wheelOf σ w h = 0 then ok0 σ else rf σ (wh_wheelOf σ w h)
def wh_register (σ : St) (k : Int32) : Int32 := if fX8_isKind k = true then (if σ.1 2 1 = 16 then -3 else 0) else -2
def an_register (σ : St) (k : Int32) : Int32 := if wh_register σ k = 0 then σ.1 2 1 else wh_register σ k
def nw_register (σ : St) (k : Int32) : St := if wh_register σ k = 0 then sI (sJ (sI (ok0 σ) 4 (cN σ 1) k) 2 (cN σ 1) 0) 2 1 (σ.1 2 1 + 1) else rf σ (wh_register σ k)
def wh_load (σ : St) (r k : Int32) (b : Int64) : Int32 := if inC σ 1 r = true then (if fX8_isKind k = true then (if k = 2 then (if fX8_isFloat b.toInt32 = true then 0 else -2) else if k = 3 then (if fX8_isNumber b = true then 0 else -2) else 0) else -2) else -2
def an_load (σ : St) (r k : Int32) (b : Int64) : Int32 := if wh_load σ r k b = 0 then 1 else wh_load σ r k b
def nw_load (σ : St) (r k : Int32) (b : Int64) : St := if wh_load σ r k b = 0 then sJ (ok0 σ) 2 (ix r) (cst k (told k b) (σ.1 4 (ix r))) else rf σ (wh_load σ r k b)
def wh_read (σ : St) (r k : Int32) : Int32 := if inC σ 1 r = true then (if fX8_isKind k = true then 0 else -2) else -2
def an_read (σ : St) (r k : Int32) : Int64 := if wh_read σ r k = 0 then cst (σ.1 4 (ix r)) (σ.2 2 (ix r)) k else 0
def nw_read (σ : St) (r k : Int32) : St := if wh_read σ r k = 0 then ok0 σ else rf σ (wh_read σ r k)
def wh_move (σ : St) (f t : Int32) : Int32 := if inC σ 1 f = true then (if inC σ 1 t = true then 0 else -2) else -2
def mvB (σ : St) (f t : Int32) : Int64 := cst (σ.1 4 (ix f)) (σ.2 2 (ix f)) (σ.1 4 (ix t))
def an_move (σ : St) (f t : Int32) : Int32 := if wh_move σ f t = 0 then (if cst (σ.1 4 (ix t)) (mvB σ f t) (σ.1 4 (ix f)) = σ.2 2 (ix f) then 1 else 0) else wh_move σ f t
def nw_move (σ : St) (f t : Int32) : St := if wh_move σ f t = 0 then sJ (ok0 σ) 2 (ix t) (mvB σ f t) else rf σ (wh_move σ f t)
def wh_take (σ : St) (w r : Int32) : Int32 := if inC σ 0 w = true then (if inC σ 1 r = true then 0 else -2) else -2
def an_take (σ : St) (w r : Int32) : Int32 := if wh_take σ w r = 0 then 1 else wh_take σ w r
def nw_take (σ : St) (w r : Int32) : St := if wh_take σ w r = 0 then sJ (ok0 σ) 2 (ix r) (cst (σ.1 3 (ix w)) (σ.2 1 (ix w)) (σ.1 4 (ix r))) else rf σ (wh_take σ w r)
def wkK (σ : St) (a b : Int32) : Int32 := if σ.1 4 (ix b) < σ.1 4 (ix a) then σ.1 4 (ix a) else σ.1 4 (ix b)
def wkX (σ : St) (a k : Int32) : Int64 := cst (σ.1 4 (ix a)) (σ.2 2 (ix a)) k
def wh_work (σ : St) (h a b t : Int32) : Int32 := if fX8_isIn h 0 4 = true then (if inC σ 1 a = true then (if inC σ 1 b = true then (if inC σ 1 t = true then (if 2 ≤ wkK σ a b then (if fX2_isVoid (wkK σ a b) h (wkX σ a (wkK σ a b)) (wkX σ b (wkK σ a b)) = true then -5 else 0) else if h ≤ 2 then 0 else if wkX σ b (wkK σ a b) = 0 then -6 else 0) else -2) else -2) else -2) else -2
def an_work (σ : St) (h a b t : Int32) : Int32 := if wh_work σ h a b t = 0 then 1 else wh_work σ h a b t
def nw_work (σ : St) (h a b t : Int32) : St := if wh_work σ h a b t = 0 then sJ (ok0 σ) 2 (ix t) (cst (wkK σ a b) (wk (wkK σ a b) h (wkX σ a (wkK σ a b)) (wkX σ b (wkK σ a b))) (σ.1 4 (ix t))) else rf σ (wh_work σ h a b t)
def wh_strip (σ : St) (k n : Int32) : Int32 := if fX8_isKind k = true then (if fX8_isIn n 0 16 = true then (if σ.1 2 2 = 8 then -3 else 0) else -2) else -2
def an_strip (σ : St) (k n : Int32) : Int32 := if wh_strip σ k n = 0 then σ.1 2 2 else wh_strip σ k n
def nw_strip (σ : St) (k n : Int32) : St := if wh_strip σ k n = 0 then sI (sB (sI (sI (sI (ok0 σ) 5 (cN σ 2) k) 6 (cN σ 2) n) 7 (cN σ 2) 0) 3 (fun q => if 16 * cN σ 2 ≤ q ∧ q < 16 * cN σ 2 + 16 then 0 else σ.2 3 q)) 2 2 (σ.1 2 2 + 1) else rf σ (wh_strip σ k n)
def wh_tear (σ : St) (s : Int32) : Int32 := if inC σ 2 s = true then 0 else -2
def an_tear (σ : St) (s : Int32) : Int32 := if wh_tear σ s = 0 then (if σ.1 7 (ix s) = 0 then 1 else 0) else wh_tear σ s
def nw_tear (σ : St) (s : Int32) : St := if wh_tear σ s = 0 then sI (ok0 σ) 7 (ix s) 1 else rf σ (wh_tear σ s)
def agS (σ : St) (s k i : Int32) : Int32 := agn (σ.1 7 (ix s)) (σ.1 5 (ix s)) (σ.1 6 (ix s)) k i
def wh_keep (σ : St) (s k i r : Int32) : Int32 := if inC σ 2 s = true then (if fX8_isKind k = true then (if inC σ 1 r = true then agS σ s k i else -2) else -2) else -2
def an_keep (σ : St) (s k i r : Int32) : Int32 := if wh_keep σ s k i r = 0 then 1 else wh_keep σ s k i r
def nw_keep (σ : St) (s k i r : Int32) : St := if wh_keep σ s k i r = 0 then sJ (ok0 σ) 3 (16 * ix s + ix i) (cst (σ.1 4 (ix r)) (σ.2 2 (ix r)) k) else rf σ (wh_keep σ s k i r)
def wh_kept (σ : St) (s k i : Int32) : Int32 := if inC σ 2 s = true then (if fX8_isKind k = true then agS σ s k i else -2) else -2
def an_kept (σ : St) (s k i : Int32) : Int64 := if wh_kept σ s k i = 0 then σ.2 3 (16 * ix s + ix i) else 0
def nw_kept (σ : St) (s k i : Int32) : St := if wh_kept σ s k i = 0 then ok0 σ else rf σ (wh_kept σ s k i)
def rsS (k : Int32) (f : Nat → Int64) : Nat → Int64
  | 0 => 0
  | n + 1 => if fX2_isVoid k 4 (f n) (f (n + 1)) = true then rsS k f n else wkB k 0 (rsS k f n) (rmB k (f n) (f (n + 1)))
def rsN (k : Int32) (f : Nat → Int64) : Nat → Int32
  | 0 => 0
  | n + 1 => if fX2_isVoid k 4 (f n) (f (n + 1)) = true then rsN k f n else rsN k f n + 1
def wh_rests (σ : St) (s r : Int32) : Int32 := if inC σ 2 s = true then (if inC σ 1 r = true then (if σ.1 7 (ix s) = 0 then (if 2 ≤ σ.1 5 (ix s) then 0 else -7) else -10) else -2) else -2
def an_rests (σ : St) (s r : Int32) : Int32 := if wh_rests σ s r = 0 then rsN (σ.1 5 (ix s)) (fun j => σ.2 3 (16 * ix s + j)) (ix (σ.1 6 (ix s)) - 1) else wh_rests σ s r
def nw_rests (σ : St) (s r : Int32) : St := if wh_rests σ s r = 0 then sJ (ok0 σ) 2 (ix r) (cst (σ.1 5 (ix s)) (rsS (σ.1 5 (ix s)) (fun j => σ.2 3 (16 * ix s + j)) (ix (σ.1 6 (ix s)) - 1)) (σ.1 4 (ix r))) else rf σ (wh_rests σ s r)
def wh_pointer (σ : St) (k w : Int32) : Int32 := if fX8_isIn k 0 3 = true then (if inC σ 0 w = true then (if σ.1 2 3 = 12 then -3 else 0) else -2) else -2
def an_pointer (σ : St) (k w : Int32) : Int32 := if wh_pointer σ k w = 0 then σ.1 2 3 else wh_pointer σ k w
def nw_pointer (σ : St) (k w : Int32) : St := if wh_pointer σ k w = 0 then sI (sI (sI (ok0 σ) 8 (cN σ 3) k) 9 (cN σ 3) w) 2 3 (σ.1 2 3 + 1) else rf σ (wh_pointer σ k w)
def wh_stand (σ : St) (k n : Int32) : Int32 := if fX8_isIn k 0 3 = true then (if fX8_isIn n 1 6 = true then (if σ.1 2 4 = 8 then -3 else 0) else -2) else -2
def an_stand (σ : St) (k n : Int32) : Int32 := if wh_stand σ k n = 0 then σ.1 2 4 else wh_stand σ k n
def nw_stand (σ : St) (k n : Int32) : St := if wh_stand σ k n = 0 then sI (sA (sI (sI (ok0 σ) 10 (cN σ 4) k) 11 (cN σ 4) n) 12 (fun q => if 6 * cN σ 4 ≤ q ∧ q < 6 * cN σ 4 + 6 then -1 else σ.1 12 q)) 2 4 (σ.1 2 4 + 1) else rf σ (wh_stand σ k n)
def lyS (σ : St) (s i p : Int32) : Int32 := if fX8_isIn i 0 (σ.1 11 (ix s) - 1) = true then (if p = -1 then 0 else if fX8_holds (σ.1 10 (ix s)) (σ.1 8 (ix p)) = true then 0 else -9) else -8
def wh_hang (σ : St) (s i p : Int32) : Int32 := if inC σ 4 s = true then (if p = -1 then lyS σ s i p else if inC σ 3 p = true then lyS σ s i p else -2) else -2
def an_hang (σ : St) (s i p : Int32) : Int32 := if wh_hang σ s i p = 0 then 1 else wh_hang σ s i p
def nw_hang (σ : St) (s i p : Int32) : St := if wh_hang σ s i p = 0 then sI (ok0 σ) 12 (6 * ix s + ix i) p else rf σ (wh_hang σ s i p)
def wh_set (σ : St) (s i p : Int32) : Int32 := if inC σ 4 s = true then (if p = -1 then (if σ.1 10 (ix s) = 3 then -7 else lyS σ s i p) else if inC σ 3 p = true then (if σ.1 10 (ix s) = 3 then -7 else if σ.1 8 (ix p) = 3 then -7 else lyS σ s i p) else -2) else -2
def an_set (σ : St) (s i p : Int32) : Int32 := if wh_set σ s i p = 0 then 1 else wh_set σ s i p
def nw_set (σ : St) (s i p : Int32) : St := if wh_set σ s i p = 0 then sI (ok0 σ) 12 (6 * ix s + ix i) p else rf σ (wh_set σ s i p)
def fiB (k : Int32) (b : Int64) : Int64 := FP.d2l (FP.dmul (vl k b) 4652007308841189376)
def shB (o k : Int32) (b : Int64) : Int64 := if o = 0 then (FP.d2i (vl k b)).toInt64 else if o = 3 then (if b < 0 then 1 else 0) else if o = 1 then fiB k b else fB (FP.l2f (fiB k b))
def shP (σ : St) (p : Int32) : Int64 := shB (σ.1 8 (ix p)) (σ.1 3 (ix (σ.1 9 (ix p)))) (σ.2 1 (ix (σ.1 9 (ix p))))
def wh_show (σ : St) (s i : Int32) : Int32 := if inC σ 4 s = true then (if fX8_isIn i 0 (σ.1 11 (ix s) - 1) = true then (if σ.1 12 (6 * ix s + ix i) = -1 then -10 else 0) else -8) else -2
def an_show (σ : St) (s i : Int32) : Int64 := if wh_show σ s i = 0 then shP σ (σ.1 12 (6 * ix s + ix i)) else 0
def nw_show (σ : St) (s i : Int32) : St := if wh_show σ s i = 0 then ok0 σ else rf σ (wh_show σ s i)
def alS (σ : St) (s : Nat) : Nat → Int64
  | 0 => 0
  | n + 1 => if σ.1 12 (6 * s + n) = -1 then alS σ s n else alS σ s n + shP σ (σ.1 12 (6 * s + n))
def wh_all (σ : St) (s : Int32) : Int32 := if inC σ 4 s = true then 0 else -2
def an_all (σ : St) (s : Int32) : Int64 := if wh_all σ s = 0 then alS σ (ix s) (ix (σ.1 11 (ix s))) else 0
def nw_all (σ : St) (s : Int32) : St := if wh_all σ s = 0 then ok0 σ else rf σ (wh_all σ s)
def an_count (σ : St) (h : Int32) : Int32 := if h = 0 then σ.1 2 0 else if h = 1 then σ.1 2 1 else if h = 2 then σ.1 2 2 else if h = 3 then σ.1 2 3 else if h = 4 then σ.1 2 4 else -2
def an_often (σ : St) (h : Int32) : Int32 := if fX8_isIn h (-10) (-3) = true then σ.1 1 (ix (-3 - h)) else 0
/-! indices -/
theorem ix_eq (i : Int32) : ix i = i.toInt.toNat := rfl
theorem isIn_iff {v a b : Int32} : fX8_isIn v a b = true ↔ a.toInt ≤ v.toInt ∧ v.toInt ≤ b.toInt := by
  unfold fX8_isIn
  by_cases h1 : v < a
  · rw [if_pos h1]; rw [Int32.lt_iff_toInt_lt] at h1; simp; omega
  · rw [if_neg h1]; rw [Int32.lt_iff_toInt_lt] at h1
    by_cases h2 : b < v
    · rw [if_pos h2]; rw [Int32.lt_iff_toInt_lt] at h2; simp; omega
    · rw [if_neg h2]; rw [Int32.lt_iff_toInt_lt] at h2; simp; omega
theorem sub1 {c : Int32} (h : -2147483648 < c.toInt) : (c - 1).toInt = c.toInt - 1 := by
  have := fb_rng c
  have e1 : (1 : Int32).toInt = 1 := rfl
  rw [fb_subI (by omega) (by omega), e1]
theorem inC_iff {c i : Int32} {n : Int} (hb : bnd c n) : fX8_isIn i 0 (c - 1) = true ↔ 0 ≤ i.toInt ∧ i.toInt < c.toInt := by
  rw [isIn_iff, sub1 (by have := hb.1; omega)]
  have e0 : (0 : Int32).toInt = 0 := rfl
  omega
theorem inC_in {c i : Int32} {n : Nat} (hb : bnd c n) (h : fX8_isIn i 0 (c - 1) = true) : vp_in i n := by
  have := (inC_iff hb).mp h
  rw [vp_in_iff]; have := hb.2; omega
theorem inC_lt {c i : Int32} {n : Int} (hb : bnd c n) (h : fX8_isIn i 0 (c - 1) = true) : ix i < c.toNatClampNeg := by
  have := (inC_iff hb).mp h
  show i.toInt.toNat < c.toInt.toNat
  omega
theorem top_in {c : Int32} {n : Nat} {m : Int32} (hb : bnd c n) (hm : m.toInt = n) (h : ¬ c = m) : vp_in c n := by
  have := hb.1; have := hb.2
  have h2 := i32_eq h
  rw [vp_in_iff]; omega
theorem inc1 {c : Int32} {n : Nat} (hb : bnd c n) (hn : n < 100) : (c + 1).toInt = c.toInt + 1 := by
  have := hb.1; have := hb.2
  have e1 : (1 : Int32).toInt = 1 := rfl
  rw [fb_addI (by omega) (by omega), e1]
theorem inc1N {c : Int32} {n : Nat} (hb : bnd c n) (hn : n < 100) : (c + 1).toNatClampNeg = c.toNatClampNeg + 1 := by
  show (c + 1).toInt.toNat = c.toInt.toNat + 1
  rw [inc1 hb hn]; have := hb.1; omega
theorem inc_dec {c : Int32} : c + 1 - 1 = c := by
  rw [Int32.add_sub_cancel]
theorem mix {k s i : Int32} {n : Nat} (hk : 0 ≤ k.toInt ∧ k.toInt ≤ 16) (hs : 0 ≤ s.toInt ∧ s.toInt < n) (hn : n ≤ 16) (hi : 0 ≤ i.toInt ∧ i.toInt < k.toInt) : (k * s + i).toInt = k.toInt * s.toInt + i.toInt := by
  have a1 : 0 ≤ k.toInt * s.toInt := Int.mul_nonneg hk.1 hs.1
  have a2 : k.toInt * s.toInt ≤ 16 * 16 := Int.mul_le_mul hk.2 (by omega) hs.1 (by decide)
  rw [fb_addI, fb_mulI (by omega) (by omega)]
  · rw [fb_mulI (by omega) (by omega)]; omega
  · rw [fb_mulI (by omega) (by omega)]; omega
theorem mix16 {s i : Int32} (hs : 0 ≤ s.toInt ∧ s.toInt < 8) (hi : 0 ≤ i.toInt ∧ i.toInt < 16) : vp_in (16 * s + i) 128 ∧ (16 * s + i).toNatClampNeg = 16 * ix s + ix i := by
  have e : (16 : Int32).toInt = 16 := rfl
  have h := mix (k := 16) (s := s) (i := i) (n := 8) (by rw [e]; omega) hs (by decide) (by rw [e]; exact hi)
  rw [e] at h
  refine ⟨by rw [vp_in_iff]; omega, ?_⟩
  show (16 * s + i).toInt.toNat = 16 * s.toInt.toNat + i.toInt.toNat
  omega
theorem mix6 {s i : Int32} (hs : 0 ≤ s.toInt ∧ s.toInt < 8) (hi : 0 ≤ i.toInt ∧ i.toInt < 6) : vp_in (6 * s + i) 48 ∧ (6 * s + i).toNatClampNeg = 6 * ix s + ix i := by
  have e : (6 : Int32).toInt = 6 := rfl
  have h := mix (k := 6) (s := s) (i := i) (n := 8) (by rw [e]; omega) hs (by decide) (by rw [e]; exact hi)
  rw [e] at h
  refine ⟨by rw [vp_in_iff]; omega, ?_⟩
  show (6 * s + i).toInt.toNat = 6 * s.toInt.toNat + i.toInt.toNat
  omega
theorem rfO2 (f : Nat → Int32) : rfO (-2) f = f := by unfold rfO; rw [if_pos (by decide)]
theorem sn_of {t : Int64} (h : FP.Core.val64 t.toUInt64 ≠ .nan) : vn_snl2d t = false := by
  have h1 := okR_le ((okR_3 t).mpr ((okR_3 t).mp h))
  rw [mg64 (by decide)] at h1
  unfold vn_snl2d
  have : ¬ (t.toUInt64 &&& 0x7fffffffffffffff > 0x7ff0000000000000) := by
    show ¬ (0x7ff0000000000000 < t.toUInt64 &&& 0x7fffffffffffffff)
    rw [UInt64.lt_iff_toNat_lt, UInt64.toNat_and]
    show ¬ (9218868437227405312 < t.toUInt64.toNat &&& (2 ^ 63 - 1))
    rw [Nat.and_two_pow_sub_one_eq_mod]
    have : infN 3 = 9218868437227405312 := rfl
    omega
  simp [this]
theorem sn_of32 {x : Int32} (h : FP.Core.val32 x.toUInt32 ≠ .nan) : vn_sni2f x = false := by
  have h1 := (flt_eq x).mpr h
  unfold vn_sni2f
  have : ¬ (x.toUInt32 &&& 0x7fffffff > 0x7f800000) := by
    show ¬ (0x7f800000 < x.toUInt32 &&& 0x7fffffff)
    rw [UInt32.lt_iff_toNat_lt, UInt32.toNat_and]
    show ¬ (2139095040 < x.toUInt32.toNat &&& (2 ^ 31 - 1))
    rw [Nat.and_two_pow_sub_one_eq_mod]
    have hh := okR_le (okR_fB h)
    rw [mg32] at hh
    have e2 : (fB x.toUInt32).toInt32.toUInt32 = x.toUInt32 := u32_fB _
    rw [e2] at hh
    have : infN 2 = 2139095040 := rfl
    omega
  simp [this]
theorem isIn23 {k : Int32} (h : fX8_isIn k 2 3 = true) : k = 2 ∨ k = 3 := by
  have h := isIn_iff.mp h
  have e2 : (2 : Int32).toInt = 2 := rfl
  have e3 : (3 : Int32).toInt = 3 := rfl
  have : k.toInt = 2 ∨ k.toInt = 3 := by omega
  rcases this with g | g
  · exact Or.inl (Int32.toInt_inj.mp g)
  · exact Or.inr (Int32.toInt_inj.mp g)
theorem rem_eq {k : Int32} (hk : k = 2 ∨ k = 3) {x y : Int64} (hx : okR k x) (hy : okR k y) (hi : ¬ mgN k x = infN k) (hz : ¬ mgN k y = 0) : FP.Core.val64 (FP.drem (vl k x) (vl k y)) ≠ .nan ∧ FP.drem (vl k x) (vl k y) = vl k (rmB k x y) ∧ okR k (rmB k x y) := by
  have hv : ¬ vd k 4 x y := fun g => by
    have g : mgN k y = 0 ∨ mgN k x = infN k := g
    exact g.elim hz hi
  have h := wr_eq hk hx hy hv (Or.inr (Or.inr (Or.inr (Or.inr rfl))))
  refine ⟨h.1, ?_, h.2.2⟩
  rcases hk with rfl | rfl
  · have d := dr_rem (fin2 hx hi) (okR2 hy).2 (fun g => hz ((zer2 y).mp g))
    show FP.drem (FP.f2d (u32 x)) (FP.f2d (u32 y)) = vl 2 (fB (FP.frem (u32 x) (u32 y)))
    rw [vl_fB]; exact d.2
  · rfl
theorem vl_0 {k : Int32} : vl k 0 = FP.dconst0 := by unfold vl; split <;> decide +kernel
