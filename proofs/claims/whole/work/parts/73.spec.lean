/-! the operations as they are asked for: what is told, and the answer -/
def kindN (P F : Nat) : Nat := if P = 32767 then (if F % 9223372036854775808 = 0 then 4 else 5) else if P = 0 then (if F = 0 then 0 else 1) else if F < 9223372036854775808 then 2 else 3
def isInf (P F : Nat) : Bool := decide (P = 32767) && decide (F % 9223372036854775808 = 0)
def isNil (P F : Nat) : Bool := !decide (P = 32767) && decide (F = 0)
def isUnn (P F : Nat) : Bool := decide (0 < F) && decide (F < 9223372036854775808) && decide (0 < P) && decide (P < 32767)
def isNan (P F : Nat) : Bool := decide (P = 32767) && !decide (F % 9223372036854775808 = 0)
def isDen (P F : Nat) : Bool := decide (P = 0) && !decide (F = 0)
abbrev Re : Type := Bool × Nat × Nat
def one2 (w : Nat) : Bool := decide (w / 4096 % 2 = 0)
def wrongS (K w : Nat) (a b : Re) : Bool :=
  if K = 0 then (isInf a.2.1 a.2.2 && isInf b.2.1 b.2.2) && (one2 w || (a.1 != b.1))
  else if K = 1 then (isInf a.2.1 a.2.2 && isInf b.2.1 b.2.2) && (one2 w || (a.1 == b.1))
  else if K = 2 then (isInf a.2.1 a.2.2 && isNil b.2.1 b.2.2) || (isNil a.2.1 a.2.2 && isInf b.2.1 b.2.2)
  else if K = 3 then (isInf a.2.1 a.2.2 && isInf b.2.1 b.2.2) || (isNil a.2.1 a.2.2 && isNil b.2.1 b.2.2) || isUnn b.2.1 b.2.2
  else (a.1 && !isNil a.2.1 a.2.2) || isUnn a.2.1 a.2.2 || (isInf a.2.1 a.2.2 && one2 w)
def beforeS (a b : Re) : Bool := if a.2.2 = b.2.2 then !a.1 && b.1 else decide (b.2.2 < a.2.2)
def nanS (a b : Re) : Re := if isNan a.2.1 a.2.2 && !(isNan b.2.1 b.2.2 && beforeS b a) then a else b
def lowS (a b : Re) : Int := if unitN a.2.1 ≤ unitN b.2.1 then unitN a.2.1 else unitN b.2.1
def shS (a b : Re) : Nat := a.2.2 * 2 ^ (unitN a.2.1 - lowS a b).toNat
def oddS (e : Int) : Nat := (e % 2).toNat
def radS (a : Re) : Nat := a.2.2 * 2 ^ (140 + oddS (unitN a.2.1))
/-- the numbers' part: the sign, and what is made -/
def numS (K w : Nat) (a b : Re) : Bool × Nat × Bool × Int :=
  if K = 0 then (sumG w a.1 b.1 (shS a b) (b.2.2 * 2 ^ (unitN b.2.1 - lowS a b).toNat), sumN a.1 b.1 (shS a b) (b.2.2 * 2 ^ (unitN b.2.1 - lowS a b).toNat), false, lowS a b)
  else if K = 1 then (sumG w a.1 (!b.1) (shS a b) (b.2.2 * 2 ^ (unitN b.2.1 - lowS a b).toNat), sumN a.1 (!b.1) (shS a b) (b.2.2 * 2 ^ (unitN b.2.1 - lowS a b).toNat), false, lowS a b)
  else if K = 2 then (a.1 != b.1, a.2.2 * b.2.2, false, unitN a.2.1 + unitN b.2.1)
  else if K = 3 then (a.1 != b.1, a.2.2 * 2 ^ 136 / b.2.2, decide (a.2.2 * 2 ^ 136 % b.2.2 ≠ 0), unitN a.2.1 - unitN b.2.1 - 136)
  else (a.1, (radS a).sqrt, decide (radS a - (radS a).sqrt * (radS a).sqrt ≠ 0), (unitN a.2.1 - oddS (unitN a.2.1)) / 2 - 70)
abbrev Ra : Type := Bool × Int × Nat
def asRa (a : Re) : Ra := (a.1, (a.2.1 : Int), a.2.2)
def infAns (K : Nat) (a b : Re) : Ra :=
  if K = 0 ∨ K = 1 then (if isInf a.2.1 a.2.2 then a.1 else b.1 != decide (K = 1), 32767, 9223372036854775808)
  else if K = 3 ∧ isInf a.2.1 a.2.2 = false then (a.1 != b.1, 0, 0)
  else (a.1 != b.1, 32767, 9223372036854775808)
def denS (a b : Re) : Nat := if isDen a.2.1 a.2.2 || isDen b.2.1 b.2.2 then 2 else 0
def opS (K w : Nat) (a b : Re) : Nat × Ra :=
  if isNan a.2.1 a.2.2 || isNan b.2.1 b.2.2 then (1, asRa (nanS a b))
  else if wrongS K w a b then (1, (true, 32767, 13835058055282163712))
  else if denS a b = 2 ∧ w / 2 % 2 = 0 then (2, asRa a)
  else if K = 3 ∧ isNil b.2.1 b.2.2 = true ∧ isInf a.2.1 a.2.2 = false then (denS a b + 4, (a.1 != b.1, 32767, 9223372036854775808))
  else if isInf a.2.1 a.2.2 || isInf b.2.1 b.2.2 then (denS a b, infAns K a b)
  else (denS a b + (SPz w (digitsOf w) (numS K w a b).1 (numS K w a b).2.1 (numS K w a b).2.2.1 (numS K w a b).2.2.2).1, ((numS K w a b).1, (SPz w (digitsOf w) (numS K w a b).1 (numS K w a b).2.1 (numS K w a b).2.2.1 (numS K w a b).2.2.2).2))
/-- an unmasked one of the first three -/
def endsN (w t : Nat) : Bool := (decide (t % 2 = 1) && decide (w % 2 = 0)) || (decide (t / 2 % 2 = 1) && decide (w / 2 % 2 = 0)) || (decide (t / 4 % 2 = 1) && decide (w / 4 % 2 = 0))
