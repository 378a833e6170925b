def f_Real_set (σ : St) (o : Nat) (a1 : Bool) (a2 : Int32) (a3 : Int64) : St :=
  let s1 : St := sZ σ 15 o a1
  let s2 : St := sI s1 16 o a2
  let s3 : St := sJ s2 17 o a3
  s3
def f_Real_isNothing (σ : St) (o : Nat) : Bool :=
  let t1 : Bool := 
      if gI σ 16 o = 32767 then
        false
      else
        if gJ σ 17 o = 0 then
          true
        else
          false
  t1
def f_Real_kind (σ : St) (o : Nat) : Int32 :=
  if gI σ 16 o = 32767 then
    let t3 : Int32 := 
        if jlshl (gJ σ 17 o) 1 = 0 then
          4
        else
          5
    t3
  else
    if gI σ 16 o = 0 then
      let t2 : Bool := 
          if gJ σ 17 o = 0 then
            false
          else
            true
      bI t2
    else
      let t1 : Int32 := 
          if 0 ≤ (gJ σ 17 o) then
            2
          else
            3
      t1
def f_Real_tag (σ : St) (o : Nat) : Int32 :=
  if f_Real_isNothing σ o = true then
    1
  else
    let t1 : Int32 := 
        if f_Real_kind σ o = 3 then
          0
        else
          2
    t1
def f_Real_top (σ : St) (o : Nat) : Int32 :=
  let t1 : Int32 := 
      if gZ σ 15 o = true then
        32768
      else
        0
  t1 ||| (gI σ 16 o)
def f_Ctl_tell (σ : St) (a1 : Int32) : St :=
  let s1 : St := sI σ 7 3 ((gI σ 7 3) ||| a1)
  s1
def f_Real_setIndefinite (σ : St) (o : Nat) : St :=
  let s1 : St := f_Real_set σ o true 32767 (-4611686018427387904)
  s1
def f_Real_take (σ : St) (o : Nat) (a1 : Nat) : St :=
  let s1 : St := sZ σ 15 o (gZ σ 15 a1)
  let s2 : St := sI s1 16 o (gI s1 16 a1)
  let s3 : St := sJ s2 17 o (gJ s2 17 a1)
  s3
def f_Ctl_ends (σ : St) : Bool :=
  let t1 : Bool := 
      if ((gI σ 7 3) &&& ((gI σ 6 3) ^^^ (-1))) &&& 7 = 0 then
        false
      else
        true
  t1
def f_Real_setZero (σ : St) (o : Nat) (a1 : Bool) : St :=
  let s1 : St := f_Real_set σ o a1 0 0
  s1
def f_Ctl_knowsOneInfinite (σ : St) : Bool :=
  let t1 : Bool := 
      if (gI σ 6 3) &&& 4096 = 0 then
        true
      else
        false
  t1
def f_Real_isInfinite (σ : St) (o : Nat) : Bool :=
  let t1 : Bool := 
      if gI σ 16 o = 32767 then
        if jlshl (gJ σ 17 o) 1 = 0 then
          true
        else
          false
      else
        false
  t1
def f_Real_goesBefore (σ : St) (o : Nat) (a1 : Nat) : Bool :=
  if gJ σ 17 o = gJ σ 17 a1 then
    let t2 : Bool := 
        if gZ σ 15 o = true then
          false
        else
          if gZ σ 15 a1 = true then
            true
          else
            false
    t2
  else
    let t1 : Bool := 
        if ((gJ σ 17 o) ^^^ (-9223372036854775808)) ≤ ((gJ σ 17 a1) ^^^ (-9223372036854775808)) then
          false
        else
          true
    t1
def f_Real_takeNoNumber (σ : St) (o : Nat) (a1 : Nat) (a2 : Nat) : Bool × St :=
  let t1 : Bool := 
      if f_Real_kind σ a1 = 5 then
        true
      else
        false
  let t2 : Bool := 
      if f_Real_kind σ a2 = 5 then
        true
      else
        false
  if t1 = true then
    let t3 : Nat := 
        if t1 = true then
          if t2 = true then
            if f_Real_goesBefore σ a2 a1 = true then
              a2
            else
              a1
          else
            a1
        else
          a2
    let s1 : St := f_Real_take σ o t3
    (true, s1)
  else
    if t2 = true then
      let t4 : Nat := 
          if t1 = true then
            if t2 = true then
              if f_Real_goesBefore σ a2 a1 = true then
                a2
              else
                a1
            else
              a1
          else
            a2
      let s2 : St := f_Real_take σ o t4
      (true, s2)
    else
      (false, σ)
def f_Ctl_settles (σ : St) (a1 : Nat) (a2 : Nat) (a3 : Bool) (a4 : Nat) : Bool × St :=
  let r1 : Bool × St := f_Real_takeNoNumber σ a4 a1 a2
  if r1.1 = true then
    let s5 : St := f_Ctl_tell r1.2 1
    (true, s5)
  else
    if a3 = true then
      let s3 : St := f_Ctl_tell r1.2 1
      let s4 : St := f_Real_setIndefinite s3 a4
      (true, s4)
    else
      let t1 : St := 
          if f_Real_kind r1.2 a1 = 1 then
            let s1 : St := f_Ctl_tell r1.2 2
            s1
          else
            if f_Real_kind r1.2 a2 = 1 then
              let s2 : St := f_Ctl_tell r1.2 2
              s2
            else
              r1.2
      (f_Ctl_ends t1, t1)
def f_Real_isUnnormalSomething (σ : St) (o : Nat) : Bool :=
  let t1 : Bool := 
      if (gJ σ 17 o) ≤ 0 then
        false
      else
        if (gI σ 16 o) ≤ 0 then
          false
        else
          if 32767 ≤ (gI σ 16 o) then
            false
          else
            true
  t1
def f_Real_setInfinite (σ : St) (o : Nat) (a1 : Bool) : St :=
  let s1 : St := f_Real_set σ o a1 32767 (-9223372036854775808)
  s1
def f_Ctl_rounding (σ : St) : Int32 :=
  (jshr (gI σ 6 3) 10) &&& 3
def f_Ctl_digits (σ : St) : Int32 :=
  let v1 : Int32 := (jshr (gI σ 6 3) 8) &&& 3
  if v1 = 0 then
    24
  else
    let t1 : Int32 := 
        if v1 = 2 then
          53
        else
          64
    t1
def f_Ctl_masks (σ : St) (a1 : Int32) : Bool :=
  let t1 : Bool := 
      if (gI σ 6 3) &&& a1 = 0 then
        false
      else
        true
  t1
def f_Ctl_overBecomesInfinite (σ : St) (a1 : Bool) : Bool :=
  let v1 : Int32 := f_Ctl_rounding σ
  let t2 : Bool := 
      if v1 = 0 then
        true
      else
        let t1 : Int32 := 
            if a1 = true then
              1
            else
              2
        if v1 = t1 then
          true
        else
          false
  t2
def f_Ctl_endsWriting (σ : St) : Bool :=
  let t1 : Bool := 
      if ((gI σ 7 3) &&& ((gI σ 6 3) ^^^ (-1))) &&& 31 = 0 then
        false
      else
        true
  t1
