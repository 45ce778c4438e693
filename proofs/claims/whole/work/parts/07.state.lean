/-- what both hold: rows (made so far, wide, size, items, the places), gauges (made so far, kind, span, the places), racks (kind, hooks), what was told -/
abbrev St : Type := (Nat × (Nat → Bool) × (Nat → Nat) × (Nat → Nat → Int64) × (Nat → Option Nat)) × (Nat × (Nat → Int32) × (Nat → Int64) × (Nat → Option Nat)) × ((Nat → Option Int32) × (Nat → Nat → Option Nat)) × Int64
def zNr (σ : St) : Nat := σ.1.1
def zRw (σ : St) : Nat → Bool := σ.1.2.1
def zRn (σ : St) : Nat → Nat := σ.1.2.2.1
def zRi (σ : St) : Nat → Nat → Int64 := σ.1.2.2.2.1
def zPl (σ : St) : Nat → Option Nat := σ.1.2.2.2.2
def zNg (σ : St) : Nat := σ.2.1.1
def zGk (σ : St) : Nat → Int32 := σ.2.1.2.1
def zGs (σ : St) : Nat → Int64 := σ.2.1.2.2.1
def zGa (σ : St) : Nat → Option Nat := σ.2.1.2.2.2
def zRk (σ : St) : Nat → Option Int32 := σ.2.2.1.1
def zHk (σ : St) : Nat → Nat → Option Nat := σ.2.2.1.2
def zTo (σ : St) : Int64 := σ.2.2.2
def uNr (σ : St) (n : Nat) : St := ((n, σ.1.2), σ.2)
def uRw (σ : St) (a : Nat) (w : Bool) : St := ((σ.1.1, va_up σ.1.2.1 a w, σ.1.2.2), σ.2)
def uRn (σ : St) (a n : Nat) : St := ((σ.1.1, σ.1.2.1, va_up σ.1.2.2.1 a n, σ.1.2.2.2), σ.2)
def uIt (σ : St) (a i : Nat) (x : Int64) : St := ((σ.1.1, σ.1.2.1, σ.1.2.2.1, va_up σ.1.2.2.2.1 a (vp_updL (σ.1.2.2.2.1 a) i x), σ.1.2.2.2.2), σ.2)
def uPl (σ : St) (p : Nat) (v : Option Nat) : St := ((σ.1.1, σ.1.2.1, σ.1.2.2.1, σ.1.2.2.2.1, va_up σ.1.2.2.2.2 p v), σ.2)
def uNg (σ : St) (n : Nat) : St := (σ.1, (n, σ.2.1.2), σ.2.2)
def uGk (σ : St) (a : Nat) (k : Int32) : St := (σ.1, (σ.2.1.1, va_up σ.2.1.2.1 a k, σ.2.1.2.2), σ.2.2)
def uGs (σ : St) (a : Nat) (x : Int64) : St := (σ.1, (σ.2.1.1, σ.2.1.2.1, va_up σ.2.1.2.2.1 a x, σ.2.1.2.2.2), σ.2.2)
def uGa (σ : St) (p : Nat) (v : Option Nat) : St := (σ.1, (σ.2.1.1, σ.2.1.2.1, σ.2.1.2.2.1, va_up σ.2.1.2.2.2 p v), σ.2.2)
def uRk (σ : St) (r : Nat) (k : Option Int32) : St := (σ.1, σ.2.1, (va_up σ.2.2.1.1 r k, σ.2.2.1.2), σ.2.2.2)
def uHk (σ : St) (r i : Nat) (v : Option Nat) : St := (σ.1, σ.2.1, (σ.2.2.1.1, va_up σ.2.2.1.2 r (va_up (σ.2.2.1.2 r) i v)), σ.2.2.2)
def uTo (σ : St) (t : Int64) : St := (σ.1, σ.2.1, σ.2.2.1, t)
/-- all items of row a become 0.0 -/
def uZ (σ : St) (a : Nat) : St := ((σ.1.1, σ.1.2.1, σ.1.2.2.1, va_up σ.1.2.2.2.1 a (fun _ => 0), σ.1.2.2.2.2), σ.2)
def uRow (σ : St) (p : Nat) (w : Bool) (n : Nat) : St := uNr (uPl (uZ (uRn (uRw σ (zNr σ) w) (zNr σ) n) (zNr σ)) p (some (zNr σ))) (zNr σ + 1)
def uGauge (σ : St) (p : Nat) (k : Int32) (x : Int64) : St := uNg (uGa (uGs (uGk σ (zNg σ) k) (zNg σ) x) p (some (zNg σ))) (zNg σ + 1)
/-- the hooks of rack r become bare -/
def uBare (σ : St) (r : Nat) : St := (σ.1, σ.2.1, (σ.2.2.1.1, va_up σ.2.2.1.2 r (fun _ => none)), σ.2.2.2)
def uRack (σ : St) (r : Nat) (k : Int32) : St := uBare (uRk σ r (some k)) r
/-- a new object -/
def z0 : St := ((0, fun _ => false, fun _ => 0, fun _ _ => 0, fun _ => none), (0, fun _ => 0, fun _ => 0, fun _ => none), (fun _ => none, fun _ _ => none), 0)
/-- within 0 .. n - 1 -/
def ixb (x : Int32) (n : Nat) : Bool := decide (0 ≤ x.toInt) && decide (x.toInt < (n : Int))
theorem ixb_some {x : Int32} {n : Nat} (h : ixb x n = true) (hn : n < 2 ^ 31) : ∃ k : Nat, k < n ∧ x = nI k := by
  unfold ixb at h
  simp only [Bool.and_eq_true, decide_eq_true_eq] at h
  exact vp_in_of (vp_in_iff.mpr h) hn
theorem ixb_nI {k n : Nat} (h : k < n) (hn : n < 2 ^ 31) : ixb (nI k) n = true := by
  unfold ixb
  rw [nI_toInt (by omega)]
  simp; omega
theorem below_ix {x b : Int32} {n : Nat} (hb : b = nI n) (hn : n < 2 ^ 31) : fX4_isBelow x b = ixb x n := by
  subst hb
  unfold fX4_isBelow ixb
  by_cases h : x < 0
  · rw [if_pos h, decide_eq_false (by rw [Int32.lt_iff_toInt_lt] at h; exact Int.not_le.mpr h)]; rfl
  · rw [if_neg h, decide_eq_true (by rw [Int32.lt_iff_toInt_lt] at h; exact Int.not_lt.mp h)]
    by_cases h2 : nI n ≤ x
    · rw [if_pos h2, decide_eq_false (by rw [Int32.le_iff_toInt_le, nI_toInt hn] at h2; omega)]; rfl
    · rw [if_neg h2, decide_eq_true (by rw [Int32.le_iff_toInt_le, nI_toInt hn] at h2; omega)]; rfl
theorem in_ix {x b : Int32} {n : Nat} (hb : b = nI n - 1) (hn : n < 2 ^ 31) : fX5_in x 0 b = ixb x n := by
  subst hb
  unfold fX5_in ixb
  have e : (nI n - 1).toInt = (n : Int) - 1 := by
    rw [Int32.toInt_sub, nI_toInt hn, show (1 : Int32).toInt = 1 from rfl, Int.bmod_eq_of_le (by omega) (by omega)]
  by_cases h : x < 0
  · rw [if_pos h, decide_eq_false (by rw [Int32.lt_iff_toInt_lt] at h; exact Int.not_le.mpr h)]; rfl
  · rw [if_neg h, decide_eq_true (by rw [Int32.lt_iff_toInt_lt] at h; exact Int.not_lt.mp h)]
    by_cases h2 : nI n - 1 < x
    · rw [if_pos h2, decide_eq_false (by rw [Int32.lt_iff_toInt_lt, e] at h2; omega)]; rfl
    · rw [if_neg h2, decide_eq_true (by rw [Int32.lt_iff_toInt_lt, e] at h2; omega)]; rfl
/-- derived contracts: a range by its size -/
theorem mX4_isBelowN (l : Launch) (x b : Int32) (n : Nat) (hb : b = nI n) (hn : n < 2 ^ 31) : Met l yX4_isBelow wsX4_isBelow ({ frames := 0, cells := 0, slots := 0, locals := 0 }) (p0 [.int x, .int b]) (pQ (.int (b2i (ixb x n)))) 0 0 (fun _ => False) := by
  rw [← below_ix hb hn]; exact mX4_isBelow l x b
theorem mX5_inN (l : Launch) (x b : Int32) (n : Nat) (hb : b = nI n - 1) (hn : n < 2 ^ 31) : Met l yX5_in wsX5_in ({ frames := 0, cells := 0, slots := 0, locals := 0 }) (p0 [.int x, .int 0, .int b]) (pQ (.int (b2i (ixb x n)))) 0 0 (fun _ => False) := by
  rw [← in_ix hb hn]; exact mX5_in l x 0 b
/-- a place or none, as the reference holds it -/
def eo (o : Option Nat) : Int32 := match o with
  | none => -1
  | some k => nI k
def ek (o : Option Int32) : Int32 := match o with
  | none => -1
  | some k => k
/-- why a row is not given, why an item is not given -/
def askR (σ : St) (p : Nat) (w : Bool) : Int32 := if zPl σ p = none then 1 else if zRw σ ((zPl σ p).getD 0) = w then 0 else 3
def askI (σ : St) (p : Nat) (w : Bool) (i : Int32) : Int32 := if askR σ p w = 0 then (if ixb i (zRn σ ((zPl σ p).getD 0)) = true then 0 else 2) else askR σ p w
/-- an item -/
def itm (σ : St) (p i : Nat) : Int64 := zRi σ ((zPl σ p).getD 0) i
/-- no number but 0 -/
def zer (v : UInt64) : Bool := decide (Op.cmpValue (FP.dcmp v FP.dconst0) CmpOp.l = 0)
def oRow (σ : St) (p : Int32) (w : Bool) (n : Int32) : Int32 × St := if ixb p 8 = true then (if ixb n 13 = true then (1, uRow σ p.toNatClampNeg w n.toNatClampNeg) else (-1, σ)) else (-1, σ)
def oShare (σ : St) (a b : Int32) : Int32 × St := if ixb a 8 = true then (if ixb b 8 = true then (if zPl σ a.toNatClampNeg = none then 0 else 1, uPl σ b.toNatClampNeg (zPl σ a.toNatClampNeg)) else (-1, σ)) else (-1, σ)
def oClear (σ : St) (p : Int32) : Int32 × St := if ixb p 8 = true then (if zPl σ p.toNatClampNeg = none then 0 else 1, uPl σ p.toNatClampNeg none) else (-1, σ)
def oPut (σ : St) (p : Int32) (w : Bool) (i : Int32) (x : Int64) : Int32 × St := if ixb p 8 = true then (if fX5_isNumber w x = true then (if askI σ p.toNatClampNeg w i = 0 then (1, uIt σ ((zPl σ p.toNatClampNeg).getD 0) i.toNatClampNeg (if w = true then x else x.toInt32.toInt64)) else (-10 - askI σ p.toNatClampNeg w i, σ)) else (-1, σ)) else (-1, σ)
def oGet (σ : St) (p : Int32) (w : Bool) (i : Int32) : Int32 × St := if ixb p 8 = true then (if askI σ p.toNatClampNeg w i = 0 then (1, uTo σ (itm σ p.toNatClampNeg i.toNatClampNeg)) else (-10 - askI σ p.toNatClampNeg w i, σ)) else (-1, σ)
def oRest (σ : St) (p : Int32) (w : Bool) (i j : Int32) : Int32 × St := if ixb p 8 = true then (if askI σ p.toNatClampNeg w i = 0 then (if askI σ p.toNatClampNeg w j = 0 then (if fX5_isEndless (fX5_number w (itm σ p.toNatClampNeg i.toNatClampNeg)) = true then (-14, σ) else if zer (fX5_number w (itm σ p.toNatClampNeg j.toNatClampNeg)) = true then (-14, σ) else (1, uTo σ (fX5_bitsOf w (FP.drem (fX5_number w (itm σ p.toNatClampNeg i.toNatClampNeg)) (fX5_number w (itm σ p.toNatClampNeg j.toNatClampNeg)))))) else (-10 - askI σ p.toNatClampNeg w j, σ)) else (-10 - askI σ p.toNatClampNeg w i, σ)) else (-1, σ)
/-- a number turned -/
def tnd (v : UInt64) (to : Int32) : Int64 := if to = 0 then (FP.d2i v).toInt8.toInt32.toInt64 else if to = 1 then (FP.d2i v).toInt16.toInt32.toInt64 else if to = 2 then ((FP.d2i v).toUInt32 % 65536).toInt32.toInt64 else if to = 3 then (FP.d2i v).toInt64 else if to = 4 then FP.d2l v else if to = 5 then fX5_bitsOf false v else fX5_bitsOf true v
def oTurn (σ : St) (p : Int32) (w : Bool) (i to : Int32) : Int32 × St := if ixb p 8 = true then (if ixb to 7 = true then (if askI σ p.toNatClampNeg w i = 0 then (1, uTo σ (tnd (fX5_number w (itm σ p.toNatClampNeg i.toNatClampNeg)) to)) else (-10 - askI σ p.toNatClampNeg w i, σ)) else (-1, σ)) else (-1, σ)
/-- eighths more -/
def moreE (w : Bool) (v : UInt64) (g : Int32) : UInt64 := if w = true then FP.dadd v (FP.ddiv (FP.i2d g) 4620693217682128896) else FP.f2d (FP.fadd (FP.d2f v) (FP.fdiv (FP.i2f g) 1090519040))
def tideN (w : Bool) (first v : UInt64) (g : Int32) : UInt64 := if zer first = true then moreE w v g else if fX5_isEndless (moreE w v g) = true then moreE w v g else FP.drem (moreE w v g) first
def oTide (σ : St) (p : Int32) (w : Bool) (i g : Int32) : Int32 × St := if ixb p 8 = true then (if askI σ p.toNatClampNeg w i = 0 then (1, uIt (uTo σ (fX5_bitsOf w (tideN w (fX5_number w (itm σ p.toNatClampNeg 0)) (fX5_number w (itm σ p.toNatClampNeg i.toNatClampNeg)) g))) ((zPl σ p.toNatClampNeg).getD 0) i.toNatClampNeg (fX5_bitsOf w (tideN w (fX5_number w (itm σ p.toNatClampNeg 0)) (fX5_number w (itm σ p.toNatClampNeg i.toNatClampNeg)) g))) else (-10 - askI σ p.toNatClampNeg w i, σ)) else (-1, σ)
/-- one item more -/
def addN (w : Bool) (a v : UInt64) : UInt64 := if w = true then FP.dadd a v else FP.f2d (FP.fadd (FP.d2f a) (FP.d2f v))
/-- two endless ones that are not the same -/
def unl (a v : UInt64) : Bool := fX5_isEndless a && (fX5_isEndless v && !decide (Op.cmpValue (FP.dcmp a v) CmpOp.l = 0))
/-- the sum: r items are left, k are done; why not, or the sum -/
def sumL (w : Bool) (it : Nat → Int64) (sz : Nat) (fr : Int32) : Nat → Nat → UInt64 → Int32 × UInt64
  | 0, _, a => (0, a)
  | r + 1, k, a => if ixb (fr + nI k) sz = true then (if unl a (fX5_number w (it (fr + nI k).toNatClampNeg)) = true then (4, a) else sumL w it sz fr r (k + 1) (addN w a (fX5_number w (it (fr + nI k).toNatClampNeg)))) else (2, a)
def oSum (σ : St) (p : Int32) (w : Bool) (fr n : Int32) : Int32 × St := if ixb p 8 = true then (if n < 0 then (-1, σ) else if askR σ p.toNatClampNeg w = 0 then (if (sumL w (itm σ p.toNatClampNeg) (zRn σ ((zPl σ p.toNatClampNeg).getD 0)) fr n.toNatClampNeg 0 FP.dconst0).1 = 0 then (1, uTo σ (fX5_bitsOf w (sumL w (itm σ p.toNatClampNeg) (zRn σ ((zPl σ p.toNatClampNeg).getD 0)) fr n.toNatClampNeg 0 FP.dconst0).2)) else (-10 - (sumL w (itm σ p.toNatClampNeg) (zRn σ ((zPl σ p.toNatClampNeg).getD 0)) fr n.toNatClampNeg 0 FP.dconst0).1, σ)) else (-10 - askR σ p.toNatClampNeg w, σ)) else (-1, σ)
def oGauge (σ : St) (p k : Int32) (x : Int64) : Int32 × St := if ixb p 6 = true then (if ixb k 3 = true then (if fX5_isNumber true x = true then (if zer x.toUInt64 = true then (-1, σ) else if fX5_isEndless x.toUInt64 = true then (-1, σ) else (1, uGauge σ p.toNatClampNeg k x)) else (-1, σ)) else (-1, σ)) else (-1, σ)
/-- what a step or a wrap tells -/
def stepN (span v : UInt64) : UInt64 := FP.dsub v (FP.drem v span)
def neg0 (v : UInt64) : Bool := decide (¬ 0 ≤ Op.cmpValue (FP.dcmp v FP.dconst0) CmpOp.g)
def tellN (k : Int32) (span v : UInt64) : UInt64 := if k = 0 then stepN span v else if neg0 (FP.dsub v (stepN span v)) = true then FP.dadd (FP.dsub v (stepN span v)) (if neg0 span = true then FP.dneg span else span) else FP.dsub v (stepN span v)
def longN (v : UInt64) (single : Bool) : Int64 := if single = true then (fJxf58ca_floatToIntBits_5c35a (FP.l2f (FP.f2l (FP.d2f v)))).toInt64 else fJxe99ae_doubleToLongBits_ccdee (FP.l2d (FP.d2l v))
def oRead (σ : St) (p : Int32) (x : Int64) (single : Bool) : Int32 × St := if ixb p 6 = true then (if fX5_isNumber true x = true then (if zGa σ p.toNatClampNeg = none then (-11, σ) else if zGk σ ((zGa σ p.toNatClampNeg).getD 0) = 2 then (1, uTo σ (longN x.toUInt64 single)) else if fX5_isEndless x.toUInt64 = true then (-14, σ) else (1, uTo σ (fX5_bitsOf (!single) (tellN (zGk σ ((zGa σ p.toNatClampNeg).getD 0)) (zGs σ ((zGa σ p.toNatClampNeg).getD 0)).toUInt64 x.toUInt64)))) else (-1, σ)) else (-1, σ)
def oRack (σ : St) (r k : Int32) : Int32 × St := if ixb r 3 = true then (if ixb k 3 = true then (1, uRack σ r.toNatClampNeg k) else (-1, σ)) else (-1, σ)
/-- a gauge, or none, is of a kind -/
def ofK (σ : St) (o : Option Nat) (k : Int32) : Bool := o.isNone || fX5_fits (zGk σ (o.getD 0)) k
def oHang (σ : St) (r i p : Int32) : Int32 × St := if ixb r 3 = true then (if ixb p 6 = true then (if zRk σ r.toNatClampNeg = none then (-11, σ) else if ixb i 4 = true then (if ofK σ (zGa σ p.toNatClampNeg) ((zRk σ r.toNatClampNeg).getD 0) = true then (1, uHk σ r.toNatClampNeg i.toNatClampNeg (zGa σ p.toNatClampNeg)) else (-15, σ)) else (-12, σ)) else (-1, σ)) else (-1, σ)
def oTake (σ : St) (r i k p : Int32) : Int32 × St := if ixb r 3 = true then (if ixb k 3 = true then (if ixb p 6 = true then (if zRk σ r.toNatClampNeg = none then (-11, σ) else if ixb i 4 = true then (if ofK σ (zHk σ r.toNatClampNeg i.toNatClampNeg) k = true then (if zHk σ r.toNatClampNeg i.toNatClampNeg = none then 0 else 1, uGa σ p.toNatClampNeg (zHk σ r.toNatClampNeg i.toNatClampNeg)) else (-13, σ)) else (-12, σ)) else (-1, σ)) else (-1, σ)) else (-1, σ)
/-- how many of the first n are there -/
def cntO (f : Nat → Bool) : Nat → Nat
  | 0 => 0
  | n + 1 => cntO f n + (if f n = true then 1 else 0)
def oCount (σ : St) (x : Int32) : Int32 := if x = 0 then nI (cntO (fun k => (zPl σ k).isSome) 8) else if x = 1 then nI (cntO (fun k => (zGa σ k).isSome) 6) else if x = 2 then nI (cntO (fun k => (zRk σ k).isSome) 3) else if ixb (x - 3) 8 = true then (if zPl σ (x - 3).toNatClampNeg = none then -1 else nI (zRn σ ((zPl σ (x - 3).toNatClampNeg).getD 0))) else if ixb (x - 11) 6 = true then (if zGa σ (x - 11).toNatClampNeg = none then -1 else zGk σ ((zGa σ (x - 11).toNatClampNeg).getD 0)) else -1
