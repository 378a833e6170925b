/-! the state of both sides, numbers, loops -/
def bI (b : Bool) : Int32 := match b with
  | true => 1
  | false => 0
abbrev St : Type := (Nat → Nat → Int32) × (Nat → Nat → Int64) × (Nat → Nat → Bool)
abbrev Om : Type := St × St × Int64
def gI (σ : St) (k o : Nat) : Int32 := σ.1 k o
def gJ (σ : St) (k o : Nat) : Int64 := σ.2.1 k o
def gZ (σ : St) (k o : Nat) : Bool := σ.2.2 k o
def sI (σ : St) (k o : Nat) (v : Int32) : St := (fun k' o' => if k' = k then (if o' = o then v else σ.1 k' o') else σ.1 k' o', σ.2)
def sJ (σ : St) (k o : Nat) (v : Int64) : St := (σ.1, fun k' o' => if k' = k then (if o' = o then v else σ.2.1 k' o') else σ.2.1 k' o', σ.2.2)
def sZ (σ : St) (k o : Nat) (v : Bool) : St := (σ.1, σ.2.1, fun k' o' => if k' = k then (if o' = o then v else σ.2.2 k' o') else σ.2.2 k' o')
theorem gI_sI (σ : St) (k o : Nat) (v : Int32) (k' o' : Nat) : gI (sI σ k o v) k' o' = if k' = k then (if o' = o then v else gI σ k' o') else gI σ k' o' := rfl
theorem gI_sJ (σ : St) (k o : Nat) (v : Int64) (k' o' : Nat) : gI (sJ σ k o v) k' o' = gI σ k' o' := rfl
theorem gI_sZ (σ : St) (k o : Nat) (v : Bool) (k' o' : Nat) : gI (sZ σ k o v) k' o' = gI σ k' o' := rfl
theorem gJ_sI (σ : St) (k o : Nat) (v : Int32) (k' o' : Nat) : gJ (sI σ k o v) k' o' = gJ σ k' o' := rfl
theorem gJ_sJ (σ : St) (k o : Nat) (v : Int64) (k' o' : Nat) : gJ (sJ σ k o v) k' o' = if k' = k then (if o' = o then v else gJ σ k' o') else gJ σ k' o' := rfl
theorem gJ_sZ (σ : St) (k o : Nat) (v : Bool) (k' o' : Nat) : gJ (sZ σ k o v) k' o' = gJ σ k' o' := rfl
theorem gZ_sI (σ : St) (k o : Nat) (v : Int32) (k' o' : Nat) : gZ (sI σ k o v) k' o' = gZ σ k' o' := rfl
theorem gZ_sJ (σ : St) (k o : Nat) (v : Int64) (k' o' : Nat) : gZ (sJ σ k o v) k' o' = gZ σ k' o' := rfl
theorem gZ_sZ (σ : St) (k o : Nat) (v : Bool) (k' o' : Nat) : gZ (sZ σ k o v) k' o' = if k' = k then (if o' = o then v else gZ σ k' o') else gZ σ k' o' := rfl
def jrem (x y : Int32) : Int32 := x - x / y * y
def jlrem (x y : Int64) : Int64 := x - x / y * y
def jshl (x y : Int32) : Int32 := x <<< (y &&& 31)
def jshr (x y : Int32) : Int32 := x >>> (y &&& 31)
def jlshl (x : Int64) (y : Int32) : Int64 := x <<< (y.toInt64 &&& 63)
def jlshr (x : Int64) (y : Int32) : Int64 := x >>> (y.toInt64 &&& 63)
def jlushr (x : Int64) (y : Int32) : Int64 := (x.toUInt64 >>> (y.toInt64.toUInt64 &&& Int64.toUInt64 63)).toInt64
def jb (x : Int32) : Int32 := x.toInt8.toInt32
def js (x : Int32) : Int32 := x.toInt16.toInt32
def jat (i : Int32) : Nat := i.toNatClampNeg
/-- a loop: its body answers whether it goes on, and the next numbers -/
def lpn {T : Type} (b : T → Bool × T) : Nat → T → T
  | 0, t => t
  | n + 1, t => match b t with
    | (true, t') => lpn b n t'
    | (false, t') => t'
/-- whether it comes to its end within n rounds -/
def lph {T : Type} (b : T → Bool × T) : Nat → T → Bool
  | 0, _ => false
  | n + 1, t => match b t with
    | (true, t') => lph b n t'
    | (false, _) => true
theorem lp_rule {T : Type} (b : T → Bool × T) (I P X : T → Prop) (hs : ∀ t, I t → (∀ t', b t = (true, t') → I t' → P t') → (∀ t', b t = (false, t') → X t') → P t) (hI : ∀ t t', I t → b t = (true, t') → I t') :
    ∀ n t, I t → lph b n t = true → X (lpn b n t) → P t := by
  intro n
  induction n with
  | zero => intro t _ h; cases h
  | succ n ih =>
    intro t hi hh hx
    refine hs t hi (fun t' e hi' => ?_) (fun t' e => ?_)
    · simp only [lph, e] at hh
      simp only [lpn, e] at hx
      exact ih t' hi' hh hx
    · simp only [lpn, e] at hx
      exact hx
def tb0 : List Int32 := [4, 4, 4, 4, 4, 4, 4, 4, 4, 0, -4, -4, 14, 2, -14, -2, 4, 4, 4, 4, 4, 4, 4, 4, 4, 0, -4, -4, 0, 10, 0, -10, 8, 8, 8, 8, 8, 8, 8, 8, 8, 0, -8, -8, 94, 0, -94, -2, 2, 2, 2, 2, 2, 2, 2, 2, 2, 0, -2, -2, 10, 8, -10, -8]
def tb1 : List Int32 := [255, 255, 255, 255, 255, 255, 255, 255, 255, 255, 1, 0, 51, 127, 208, 53, 0, 0, 0, 0, 0, 0, 0, 0, 0, 0, 0, 0, 15, 0, 0, 0, 255, 255, 0, 0, 255, 255, 255, 255, 255, 0, 255, 255, 0, 0, 0, 0, 255, 255, 0, 2, 255, 255, 255, 255, 0, 0, 0, 0, 0, 0, 0, 0]
def tb2 : List Int32 := [3, 3, 3, 3, 3, 3, 3, 3, 3, -1, 3, 3, -1, -1, -1, -1, 1, 1, 1, 1, 1, 1, 1, 1, 1, -1, 1, 1, -1, 6, -1, 6, 4, 4, 4, 4, 4, 4, 4, 4, 4, -1, 4, 4, -1, -1, -1, -1, 0, 0, 0, 0, 0, 0, 0, 0, 0, -1, 0, 0, 5, 2, 5, 2]
def tb3 : List Int32 := [16383, 16384, 16383, 16384, 16381, 16382, 0]
def tb4 : List Int64 := [-9223372036854775808, -3127054724296373506, -5140230975865229124, -3958705157555305931, -7340697496662837351, -5660435428506895956, 0]
def tb5 : List Int32 := [8, 12, 0, 4, 5, 1]
def upf (B x : Int32) : Nat := (B.toInt - x.toInt).toNat + 1
def dnf (x : Int32) : Nat := (x.toInt + 1).toNat + 1
def dbf (B x : Int32) : Nat := (x.toInt - B.toInt + 1).toNat + 1
def dblf (x : Int64) : Nat := if x.toInt ≤ 0 then 1 else (9223372036854775808 - x.toInt).toNat + 1
