def b_Mem_put_3 (a1 : Int32) (a2 : Int32) (a3 : Int64) (t2 : Int32 × St) : Bool × (Int32 × St) :=
  if a2 ≤ t2.1 then
    (false, (t2.1, t2.2))
  else
    let t3 : St := 
        if (a1 + t2.1) < 0 then
          t2.2
        else
          if 94 ≤ (a1 + t2.1) then
            t2.2
          else
            let s1 : St := sI t2.2 100 (jat (a1 + t2.1)) (jb (jb (Int64.toInt32 (jlushr a3 (8 * t2.1)))))
            s1
    let v1 : Int32 := t2.1 + 1
    (true, (v1, t3))
def f_Mem_put (σ : St) (a1 : Int32) (a2 : Int32) (a3 : Int64) : St :=
  let t1 : Int32 × St := lpn ((b_Mem_put_3 a1 a2 a3)) (upf a2 0) (0, σ)
  t1.2
def b_Mem_bits_9 (σ : St) (a1 : Int32) (t2 : Int32 × Int64) : Bool × (Int32 × Int64) :=
  if t2.1 < a1 then
    (false, (t2.1, t2.2))
  else
    let t3 : Int64 := 
        if t2.1 < 0 then
          t2.2
        else
          if 94 ≤ t2.1 then
            t2.2
          else
            let v2 : Int64 := (jlshl t2.2 8) ||| (Int32.toInt64 ((gI σ 100 (jat t2.1)) &&& 255))
            v2
    let v3 : Int32 := t2.1 + (-1)
    (true, (v3, t3))
def f_Mem_bits (σ : St) (a1 : Int32) (a2 : Int32) : Int64 :=
  let v1 : Int32 := (a1 + a2) - 1
  let t1 : Int32 × Int64 := lpn ((b_Mem_bits_9 σ a1)) (dbf a1 v1) (v1, 0)
  t1.2
def f_Real_set (σ : St) (o : Nat) (a1 : Bool) (a2 : Int32) (a3 : Int64) : St :=
  let s1 : St := sZ σ 15 o a1
  let s2 : St := sI s1 16 o a2
  let s3 : St := sJ s2 17 o a3
  s3
def f_Real_isNothing (σ : St) (o : Nat) : Bool :=
  let t1 : Bool := 
      if gI σ 16 o = 32767 then
        false
      else
        if gJ σ 17 o = 0 then
          true
        else
          false
  t1
def f_Real_kind (σ : St) (o : Nat) : Int32 :=
  if gI σ 16 o = 32767 then
    let t3 : Int32 := 
        if jlshl (gJ σ 17 o) 1 = 0 then
          4
        else
          5
    t3
  else
    if gI σ 16 o = 0 then
      let t2 : Bool := 
          if gJ σ 17 o = 0 then
            false
          else
            true
      bI t2
    else
      let t1 : Int32 := 
          if 0 ≤ (gJ σ 17 o) then
            2
          else
            3
      t1
def f_Real_tag (σ : St) (o : Nat) : Int32 :=
  if f_Real_isNothing σ o = true then
    1
  else
    let t1 : Int32 := 
        if f_Real_kind σ o = 3 then
          0
        else
          2
    t1
def f_Real_top (σ : St) (o : Nat) : Int32 :=
  let t1 : Int32 := 
      if gZ σ 15 o = true then
        32768
      else
        0
  t1 ||| (gI σ 16 o)
def f_Real_setIndefinite (σ : St) (o : Nat) : St :=
  let s1 : St := f_Real_set σ o true 32767 (-4611686018427387904)
  s1
def f_Real_take (σ : St) (o : Nat) (a1 : Nat) : St :=
  let s1 : St := sZ σ 15 o (gZ σ 15 a1)
  let s2 : St := sI s1 16 o (gI s1 16 a1)
  let s3 : St := sJ s2 17 o (gJ s2 17 a1)
  s3
def f_Real_setZero (σ : St) (o : Nat) (a1 : Bool) : St :=
  let s1 : St := f_Real_set σ o a1 0 0
  s1
def f_Real_isInfinite (σ : St) (o : Nat) : Bool :=
  let t1 : Bool := 
      if gI σ 16 o = 32767 then
        if jlshl (gJ σ 17 o) 1 = 0 then
          true
        else
          false
      else
        false
  t1
def f_Real_goesBefore (σ : St) (o : Nat) (a1 : Nat) : Bool :=
  if gJ σ 17 o = gJ σ 17 a1 then
    let t2 : Bool := 
        if gZ σ 15 o = true then
          false
        else
          if gZ σ 15 a1 = true then
            true
          else
            false
    t2
  else
    let t1 : Bool := 
        if ((gJ σ 17 o) ^^^ (-9223372036854775808)) ≤ ((gJ σ 17 a1) ^^^ (-9223372036854775808)) then
          false
        else
          true
    t1
def f_Real_takeNoNumber_b40 (σ : St) (o : Nat) (a1 : Nat) (a2 : Nat) (t1 : Bool) (t2 : Bool) : Bool × St :=
  let t3 : Nat := 
      if t1 = true then
        if t2 = true then
          if f_Real_goesBefore σ a2 a1 = true then
            a2
          else
            a1
        else
          a1
      else
        a2
  let s1 : St := f_Real_take σ o t3
  (true, s1)
def f_Real_takeNoNumber (σ : St) (o : Nat) (a1 : Nat) (a2 : Nat) : Bool × St :=
  let t1 : Bool := 
      if f_Real_kind σ a1 = 5 then
        true
      else
        false
  let t2 : Bool := 
      if f_Real_kind σ a2 = 5 then
        true
      else
        false
  if t1 = true then
    f_Real_takeNoNumber_b40 σ o a1 a2 t1 t2
  else
    if t2 = true then
      f_Real_takeNoNumber_b40 σ o a1 a2 t1 t2
    else
      (false, σ)
def f_Real_isUnnormalSomething (σ : St) (o : Nat) : Bool :=
  let t1 : Bool := 
      if (gJ σ 17 o) ≤ 0 then
        false
      else
        if (gI σ 16 o) ≤ 0 then
          false
        else
          if 32767 ≤ (gI σ 16 o) then
            false
          else
            true
  t1
def f_Real_setInfinite (σ : St) (o : Nat) (a1 : Bool) : St :=
  let s1 : St := f_Real_set σ o a1 32767 (-9223372036854775808)
  s1
def b_Size_normalise_53 (o : Nat) (t3 : Int32 × St) : Bool × (Int32 × St) :=
  if t3.1 ≤ 0 then
    (false, (t3.1, t3.2))
  else
    let t4 : St := 
        if jlushr (gJ t3.2 8 o) (64 - t3.1) = 0 then
          let s4 : St := sJ t3.2 8 o ((jlshl (gJ t3.2 8 o) t3.1) ||| (jlushr (gJ t3.2 9 o) (64 - t3.1)))
          let s5 : St := sJ s4 9 o (jlshl (gJ s4 9 o) t3.1)
          let s6 : St := sI s5 11 o ((gI s5 11 o) - t3.1)
          s6
        else
          t3.2
    let v1 : Int32 := jshr t3.1 1
    (true, (v1, t4))
def f_Size_normalise (σ : St) (o : Nat) : St :=
  let t1 : St := 
      if gJ σ 8 o = 0 then
        let s1 : St := sJ σ 8 o (gJ σ 9 o)
        let s2 : St := sJ s1 9 o 0
        let s3 : St := sI s2 11 o ((gI s2 11 o) - 64)
        s3
      else
        σ
  if gJ t1 8 o = 0 then
    let s7 : St := sI t1 11 o (-17000)
    s7
  else
    let t2 : Int32 × St := lpn ((b_Size_normalise_53 o)) (33) (32, t1)
    t2.2
def f_Size_loadTimes (σ : St) (o : Nat) (a1 : Int64) (a2 : Int32) : St :=
  let s1 : St := sJ σ 8 o a1
  let s2 : St := sJ s1 9 o 0
  let s3 : St := sZ s2 10 o false
  let s4 : St := sI s3 11 o (a2 - 64)
  let s5 : St := f_Size_normalise s4 o
  s5
def f_Size_exponent (σ : St) (o : Nat) : Int32 :=
  (gI σ 11 o) + 127
def f_Size_load (σ : St) (o : Nat) (a1 : Nat) : St :=
  let t1 : Int32 := 
      if gI σ 16 a1 = 0 then
        1
      else
        gI σ 16 a1
  let s1 : St := f_Size_loadTimes σ o (gJ σ 17 a1) (t1 - 16446)
  s1
def f_Size_isBelow (a1 : Int64) (a2 : Int64) : Bool :=
  let t1 : Bool := 
      if (a2 ^^^ (-9223372036854775808)) ≤ (a1 ^^^ (-9223372036854775808)) then
        false
      else
        true
  t1
def f_Size_against (σ : St) (o : Nat) (a1 : Nat) : Int32 :=
  if gI σ 11 o = gI σ 11 a1 then
    if gJ σ 8 o = gJ σ 8 a1 then
      0
    else
      let t1 : Int32 := 
          if f_Size_isBelow (gJ σ 8 o) (gJ σ 8 a1) = true then
            (-1)
          else
            1
      t1
  else
    let t2 : Int32 := 
        if (gI σ 11 a1) ≤ (gI σ 11 o) then
          1
        else
          (-1)
    t2
def f_Size_swap (σ : St) (o : Nat) (a1 : Nat) : St :=
  let v1 : Int64 := gJ σ 8 a1
  let v2 : Int32 := gI σ 11 a1
  let s1 : St := sJ σ 8 a1 (gJ σ 8 o)
  let s2 : St := sI s1 11 a1 (gI s1 11 o)
  let s3 : St := sJ s2 8 o v1
  let s4 : St := sI s3 11 o v2
  s4
def f_Size_shiftRight (σ : St) (o : Nat) (a1 : Int32) : St :=
  let s1 : St := sI σ 11 o ((gI σ 11 o) + a1)
  if a1 < 128 then
    let t1 : Int32 × St := 
        if a1 < 64 then
          (a1, s1)
        else
          let t2 : Bool := 
              if gZ s1 10 o = true then
                true
              else
                if gJ s1 9 o = 0 then
                  false
                else
                  true
          let s2 : St := sZ s1 10 o t2
          let s3 : St := sJ s2 9 o (gJ s2 8 o)
          let s4 : St := sJ s3 8 o 0
          let v1 : Int32 := a1 + (-64)
          (v1, s4)
    let t3 : St := 
        if t1.1 ≤ 0 then
          t1.2
        else
          let t4 : Bool := 
              if gZ t1.2 10 o = true then
                true
              else
                if jlshl (gJ t1.2 9 o) (64 - t1.1) = 0 then
                  false
                else
                  true
          let s5 : St := sZ t1.2 10 o t4
          let s6 : St := sJ s5 9 o ((jlushr (gJ s5 9 o) t1.1) ||| (jlshl (gJ s5 8 o) (64 - t1.1)))
          let s7 : St := sJ s6 8 o (jlushr (gJ s6 8 o) t1.1)
          s7
    t3
  else
    let t5 : Bool := 
        if gZ s1 10 o = true then
          true
        else
          if gJ s1 8 o = 0 then
            if gJ s1 9 o = 0 then
              false
            else
              true
          else
            true
    let s8 : St := sZ s1 10 o t5
    let s9 : St := sJ s8 8 o 0
    let s10 : St := sJ s9 9 o 0
    s10
def f_Size_add (σ : St) (o : Nat) (a1 : Nat) : St :=
  let s1 : St := f_Size_shiftRight σ o 1
  let s2 : St := f_Size_shiftRight s1 a1 ((gI s1 11 o) - (gI s1 11 a1))
  let s3 : St := sJ s2 9 o ((gJ s2 9 o) + (gJ s2 9 a1))
  let t1 : Bool := 
      if f_Size_isBelow (gJ s3 9 o) (gJ s3 9 a1) = true then
        true
      else
        false
  let s4 : St := sJ s3 8 o ((gJ s3 8 o) + ((gJ s3 8 a1) + (Int32.toInt64 (bI t1))))
  let s5 : St := sZ s4 10 o (gZ s4 10 a1)
  let s6 : St := f_Size_normalise s5 o
  s6
def f_Size_subtract (σ : St) (o : Nat) (a1 : Nat) : St :=
  let s1 : St := f_Size_shiftRight σ o 1
  let s2 : St := f_Size_shiftRight s1 a1 ((gI s1 11 o) - (gI s1 11 a1))
  let t1 : Int64 := 
      if f_Size_isBelow (gJ s2 9 o) (gJ s2 9 a1) = true then
        1
      else
        0
  let s3 : St := sJ s2 9 o ((gJ s2 9 o) - (gJ s2 9 a1))
  let s4 : St := sJ s3 8 o ((gJ s3 8 o) - ((gJ s3 8 a1) + t1))
  let s5 : St := sZ s4 10 o (gZ s4 10 a1)
  let t2 : St := 
      if gZ s5 10 o = true then
        let t3 : Int64 := 
            if gJ s5 9 o = 0 then
              1
            else
              0
        let s6 : St := sJ s5 8 o ((gJ s5 8 o) - t3)
        let s7 : St := sJ s6 9 o ((gJ s6 9 o) - 1)
        s7
      else
        s5
  let s8 : St := f_Size_normalise t2 o
  s8
def f_Size_multiply (σ : St) (o : Nat) (a1 : Nat) : St :=
  let v1 : Int64 := jlushr (gJ σ 8 o) 32
  let v2 : Int64 := (gJ σ 8 o) &&& 4294967295
  let v3 : Int64 := jlushr (gJ σ 8 a1) 32
  let v4 : Int64 := (gJ σ 8 a1) &&& 4294967295
  let v5 : Int64 := v2 * v4
  let v6 : Int64 := (v1 * v4) + (jlushr v5 32)
  let v7 : Int64 := (v2 * v3) + (v6 &&& 4294967295)
  let s1 : St := sJ σ 8 o (((v1 * v3) + (jlushr v6 32)) + (jlushr v7 32))
  let s2 : St := sJ s1 9 o ((jlshl v7 32) ||| (v5 &&& 4294967295))
  let s3 : St := sI s2 11 o ((gI s2 11 o) + ((gI s2 11 a1) + 128))
  let s4 : St := f_Size_normalise s3 o
  s4
def f_Size_longDivide_b123 (o : Nat) (a1 : Int64) (s8 : St) : St :=
  let s9 : St := sJ s8 14 o ((gJ s8 14 o) - a1)
  let s10 : St := sJ s9 9 o ((gJ s9 9 o) ||| 1)
  s10
def b_Size_longDivide_47 (o : Nat) (a1 : Int64) (a2 : Int32) (t3 : Int32 × St) : Bool × (Int32 × St) :=
  if a2 ≤ t3.1 then
    (false, (t3.1, t3.2))
  else
    let t4 : Bool := 
        if 0 ≤ (gJ t3.2 14 o) then
          false
        else
          true
    let s6 : St := sJ t3.2 14 o (jlshl (gJ t3.2 14 o) 1)
    let s7 : St := sJ s6 8 o ((jlshl (gJ s6 8 o) 1) ||| (jlushr (gJ s6 9 o) 63))
    let s8 : St := sJ s7 9 o (jlshl (gJ s7 9 o) 1)
    let t5 : St := 
        if t4 = true then
          f_Size_longDivide_b123 o a1 s8
        else
          if f_Size_isBelow (gJ s8 14 o) a1 = true then
            s8
          else
            f_Size_longDivide_b123 o a1 s8
    let v1 : Int32 := t3.1 + 1
    (true, (v1, t5))
def f_Size_longDivide (σ : St) (o : Nat) (a1 : Int64) (a2 : Int32) : St :=
  let s1 : St := sJ σ 14 o (gJ σ 8 o)
  let s2 : St := sJ s1 8 o 0
  let s3 : St := sJ s2 9 o 0
  let t1 : St := 
      if f_Size_isBelow (gJ s3 14 o) a1 = true then
        s3
      else
        let s4 : St := sJ s3 14 o ((gJ s3 14 o) - a1)
        let s5 : St := sJ s4 9 o 1
        s5
  let t2 : Int32 × St := lpn ((b_Size_longDivide_47 o a1 a2)) (upf a2 0) (0, t1)
  t2.2
def f_Size_divide (σ : St) (o : Nat) (a1 : Nat) : St :=
  let s1 : St := f_Size_longDivide σ o (gJ σ 8 a1) 66
  let t1 : Bool := 
      if gJ s1 14 o = 0 then
        false
      else
        true
  let s2 : St := sZ s1 10 o t1
  let s3 : St := sI s2 11 o ((gI s2 11 o) - ((gI s2 11 a1) + 66))
  let s4 : St := f_Size_normalise s3 o
  s4
def f_Size_root_b173 (o : Nat) (v2 : Int64) (v3 : Int64) (v5 : Int64) (v6 : Int64) (s4 : St) : Int64 × Int64 × St :=
  let t6 : Bool := 
      if f_Size_isBelow v3 v6 = true then
        true
      else
        false
  let v7 : Int64 := v2 - (v5 + (Int32.toInt64 (bI t6)))
  let v8 : Int64 := v3 - v6
  let s5 : St := sJ s4 9 o ((gJ s4 9 o) ||| 1)
  (v8, v7, s5)
def b_Size_root_39 (o : Nat) (t1 : Bool) (t3 : Int32 × Int64 × Int64 × Int64 × St) : Bool × (Int32 × Int64 × Int64 × Int64 × St) :=
  if 66 ≤ t3.1 then
    (false, (t3.1, t3.2.1, t3.2.2.1, t3.2.2.2.1, t3.2.2.2.2))
  else
    let t4 : Int32 := 
        if t1 = true then
          if t3.1 = 0 then
            1
          else
            2
        else
          2
    let v2 : Int64 := (jlshl t3.2.2.1 2) ||| (jlushr t3.2.1 62)
    let v3 : Int64 := (jlshl t3.2.1 2) ||| (jlushr t3.2.2.2.1 (64 - t4))
    let v4 : Int64 := jlshl t3.2.2.2.1 t4
    let v5 : Int64 := (jlshl (gJ t3.2.2.2.2 8 o) 2) ||| (jlushr (gJ t3.2.2.2.2 9 o) 62)
    let v6 : Int64 := (jlshl (gJ t3.2.2.2.2 9 o) 2) ||| 1
    let s3 : St := sJ t3.2.2.2.2 8 o ((jlshl (gJ t3.2.2.2.2 8 o) 1) ||| (jlushr (gJ t3.2.2.2.2 9 o) 63))
    let s4 : St := sJ s3 9 o (jlshl (gJ s3 9 o) 1)
    let t5 : Int64 × Int64 × St := 
        if v5 < v2 then
          f_Size_root_b173 o v2 v3 v5 v6 s4
        else
          if v2 = v5 then
            if f_Size_isBelow v3 v6 = true then
              (v3, v2, s4)
            else
              f_Size_root_b173 o v2 v3 v5 v6 s4
          else
            (v3, v2, s4)
    let v9 : Int32 := t3.1 + 1
    (true, (v9, t5.1, t5.2.1, v4, t5.2.2))
def f_Size_root (σ : St) (o : Nat) : St :=
  let v1 : Int64 := gJ σ 8 o
  let t1 : Bool := 
      if (gI σ 11 o) &&& 1 = 0 then
        false
      else
        true
  let s1 : St := sJ σ 8 o 0
  let s2 : St := sJ s1 9 o 0
  let t2 : Int32 × Int64 × Int64 × Int64 × St := lpn ((b_Size_root_39 o t1)) (upf 66 0) (0, 0, 0, v1, s2)
  let t7 : Bool := 
      if t2.2.2.1 = 0 then
        if t2.2.1 = 0 then
          false
        else
          true
      else
        true
  let s6 : St := sZ t2.2.2.2.2 10 o t7
  let t8 : Int32 := 
      if t1 = true then
        67
      else
        68
  let s7 : St := sI s6 11 o (jshr (((gI s6 11 o) + 64) - t8) 1)
  let s8 : St := f_Size_normalise s7 o
  s8
def f_Size_isNothing (σ : St) (o : Nat) : Bool :=
  let t1 : Bool := 
      if gJ σ 8 o = 0 then
        if gJ σ 9 o = 0 then
          true
        else
          false
      else
        false
  t1
def f_Size_roundsUp (σ : St) (o : Nat) (a1 : Int64) (a2 : Bool) (a3 : Int32) (a4 : Bool) : Bool :=
  let t1 : Bool := 
      if a1 = (-9223372036854775808) then
        if a2 = true then
          false
        else
          true
      else
        false
  if a3 = 0 then
    let t2 : Bool := 
        if 0 ≤ a1 then
          false
        else
          if t1 = true then
            if (gJ σ 12 o) &&& 1 = 0 then
              false
            else
              true
          else
            true
    t2
  else
    if a3 = 1 then
      a4
    else
      if a3 = 2 then
        let t3 : Bool := 
            if a4 = true then
              false
            else
              true
        t3
      else
        if a3 = 3 then
          false
        else
          if a3 = 4 then
            let t4 : Bool := 
                if 0 ≤ a1 then
                  false
                else
                  if t1 = true then
                    false
                  else
                    true
            t4
          else
            false
def f_Size_round (σ : St) (o : Nat) (a1 : Int32) (a2 : Int32) (a3 : Bool) : St :=
  let v1 : Int64 := gJ σ 9 o
  let v2 : Bool := gZ σ 10 o
  let s1 : St := sJ σ 12 o (gJ σ 8 o)
  let t1 : Bool × Int64 × St := 
      if a1 ≤ 64 then
        (v2, v1, s1)
      else
        let t2 : Bool := 
            if v2 = true then
              true
            else
              if gJ s1 9 o = 0 then
                false
              else
                true
        let t3 : Int64 := 
            if 128 ≤ a1 then
              0
            else
              jlushr (gJ s1 8 o) (a1 - 64)
        let s2 : St := sJ s1 12 o t3
        let t4 : Int64 := 
            if 128 < a1 then
              jlushr (gJ s2 8 o) 1
            else
              jlshl (gJ s2 8 o) (128 - a1)
        (t2, t4, s2)
  let t5 : Bool := 
      if t1.2.1 = 0 then
        if t1.1 = true then
          true
        else
          false
      else
        true
  let s3 : St := sZ t1.2.2 13 o t5
  let t6 : St := 
      if gZ s3 13 o = true then
        if f_Size_roundsUp s3 o t1.2.1 t1.1 a2 a3 = true then
          let s4 : St := sJ s3 12 o ((gJ s3 12 o) + 1)
          s4
        else
          s3
      else
        s3
  t6
def f_Size_reduce (σ : St) (o : Nat) (a1 : Nat) (a2 : Int32) (a3 : Int32) : Int32 × St :=
  let s1 : St := f_Size_longDivide σ o (gJ σ 8 a1) a2
  let v1 : Int32 := (Int64.toInt32 (gJ s1 9 o)) &&& 7
  let s2 : St := f_Size_loadTimes s1 o (gJ s1 14 o) (((gI s1 11 a1) + 64) + a3)
  (v1, s2)
def f_Ctl_tell (σ : St) (a1 : Int32) : St :=
  let s1 : St := sI σ 7 3 ((gI σ 7 3) ||| a1)
  s1
def f_Ctl_ends (σ : St) : Bool :=
  let t1 : Bool := 
      if ((gI σ 7 3) &&& ((gI σ 6 3) ^^^ (-1))) &&& 7 = 0 then
        false
      else
        true
  t1
def f_Ctl_knowsOneInfinite (σ : St) : Bool :=
  let t1 : Bool := 
      if (gI σ 6 3) &&& 4096 = 0 then
        true
      else
        false
  t1
def f_Ctl_settles_b49 (r1 : Bool × St) : St :=
  let s1 : St := f_Ctl_tell r1.2 2
  s1
def f_Ctl_settles (σ : St) (a1 : Nat) (a2 : Nat) (a3 : Bool) (a4 : Nat) : Bool × St :=
  let r1 : Bool × St := f_Real_takeNoNumber σ a4 a1 a2
  if r1.1 = true then
    let s4 : St := f_Ctl_tell r1.2 1
    (true, s4)
  else
    if a3 = true then
      let s2 : St := f_Ctl_tell r1.2 1
      let s3 : St := f_Real_setIndefinite s2 a4
      (true, s3)
    else
      let t1 : St := 
          if f_Real_kind r1.2 a1 = 1 then
            f_Ctl_settles_b49 r1
          else
            if f_Real_kind r1.2 a2 = 1 then
              f_Ctl_settles_b49 r1
            else
              r1.2
      (f_Ctl_ends t1, t1)
def f_Ctl_rounding (σ : St) : Int32 :=
  (jshr (gI σ 6 3) 10) &&& 3
def f_Ctl_digits (σ : St) : Int32 :=
  let v1 : Int32 := (jshr (gI σ 6 3) 8) &&& 3
  if v1 = 0 then
    24
  else
    let t1 : Int32 := 
        if v1 = 2 then
          53
        else
          64
    t1
def f_Ctl_masks (σ : St) (a1 : Int32) : Bool :=
  let t1 : Bool := 
      if (gI σ 6 3) &&& a1 = 0 then
        false
      else
        true
  t1
def f_Ctl_overBecomesInfinite (σ : St) (a1 : Bool) : Bool :=
  let v1 : Int32 := f_Ctl_rounding σ
  let t1 : Bool := 
      if v1 = 0 then
        true
      else
        let t2 : Int32 := 
            if a1 = true then
              1
            else
              2
        if v1 = t2 then
          true
        else
          false
  t1
def f_Ctl_endsWriting (σ : St) : Bool :=
  let t1 : Bool := 
      if ((gI σ 7 3) &&& ((gI σ 6 3) ^^^ (-1))) &&& 31 = 0 then
        false
      else
        true
  t1
def f_Maker_makeTiny (σ : St) (o : Nat) (a1 : Nat) (a2 : Bool) (a3 : Int32) (a4 : Nat) : St :=
  let s1 : St := f_Size_round σ a1 (((-16381) - a3) - (gI σ 11 a1)) (f_Ctl_rounding σ) a2
  let v1 : Int64 := jlshl (gJ s1 12 a1) (64 - a3)
  let t1 : Int32 := 
      if gZ s1 13 a1 = true then
        48
      else
        0
  let s2 : St := f_Ctl_tell s1 t1
  let t2 : Bool := 
      if 0 ≤ v1 then
        false
      else
        true
  let s3 : St := f_Real_set s2 a4 a2 (bI t2) v1
  s3
def f_Maker_makeGreatest (σ : St) (o : Nat) (a1 : Bool) (a2 : Int32) (a3 : Nat) : St :=
  let s1 : St := f_Ctl_tell σ 32
  let t1 : St := 
      if f_Ctl_overBecomesInfinite s1 a1 = true then
        let s3 : St := f_Real_setInfinite s1 a3 a1
        s3
      else
        let s2 : St := f_Real_set s1 a3 a1 32766 (jlshl (-1) (64 - a2))
        s2
  t1
def f_Maker_make_b178 (a1 : Nat) (a2 : Bool) (a4 : Nat) (t2 : Int32 × Int64) (x1 : Int32) (x2 : St) : St :=
  let t3 : Int32 := 
      if gZ x2 13 a1 = true then
        32
      else
        0
  let s6 : St := f_Ctl_tell x2 t3
  let s7 : St := f_Real_set s6 a4 a2 x1 t2.2
  s7
def f_Maker_make_b58 (σ : St) (o : Nat) (a1 : Nat) (a2 : Bool) (a3 : Int32) (a4 : Nat) (t1 : Bool) : St :=
  let s2 : St := f_Size_round σ a1 (128 - a3) (f_Ctl_rounding σ) a2
  let v1 : Int64 := jlshl (gJ s2 12 a1) (64 - a3)
  let v2 : Int32 := (f_Size_exponent s2 a1) + 16383
  let t2 : Int32 × Int64 := 
      if v1 = 0 then
        let v3 : Int32 := v2 + 1
        (v3, (-9223372036854775808))
      else
        (v2, v1)
  if t1 = true then
    let s5 : St := f_Ctl_tell s2 16
    let v5 : Int32 := t2.1 + 24576
    f_Maker_make_b178 a1 a2 a4 t2 v5 s5
  else
    if t2.1 < 32767 then
      f_Maker_make_b178 a1 a2 a4 t2 t2.1 s2
    else
      let s3 : St := f_Ctl_tell s2 8
      if f_Ctl_masks s3 8 = true then
        let s4 : St := f_Maker_makeGreatest s3 o a2 a3 a4
        s4
      else
        let v4 : Int32 := t2.1 + (-24576)
        f_Maker_make_b178 a1 a2 a4 t2 v4 s3
def f_Maker_make (σ : St) (o : Nat) (a1 : Nat) (a2 : Bool) (a3 : Int32) (a4 : Nat) : St :=
  if f_Size_isNothing σ a1 = true then
    let s8 : St := f_Real_setZero σ a4 a2
    s8
  else
    let t1 : Bool := 
        if (-16382) ≤ (f_Size_exponent σ a1) then
          false
        else
          true
    if t1 = true then
      if f_Ctl_masks σ 16 = true then
        let s1 : St := f_Maker_makeTiny σ o a1 a2 a3 a4
        s1
      else
        f_Maker_make_b58 σ o a1 a2 a3 a4 t1
    else
      f_Maker_make_b58 σ o a1 a2 a3 a4 t1
def f_Rd_readPattern (σ : St) (a1 : Int32) (a2 : Nat) : St :=
  let v1 : Int32 := Int64.toInt32 (f_Mem_bits σ (a1 + 8) 2)
  let t1 : Bool := 
      if v1 < 32768 then
        false
      else
        true
  let s1 : St := f_Real_set σ a2 t1 (v1 &&& 32767) (f_Mem_bits σ a1 8)
  s1
def f_Rd_putNumber (σ : St) (a1 : Bool) (a2 : Int64) (a3 : Int32) (a4 : Nat) : St :=
  if a2 = 0 then
    let s3 : St := f_Real_setZero σ a4 a1
    s3
  else
    let s1 : St := f_Size_loadTimes σ 8 a2 a3
    let s2 : St := f_Real_set s1 a4 a1 ((f_Size_exponent s1 8) + 16383) (gJ s1 8 8)
    s2
def f_Rd_readWhole (σ : St) (a1 : Int64) (a2 : Nat) : St :=
  let t1 : Bool := 
      if 0 ≤ a1 then
        false
      else
        true
  let t2 : Int64 := 
      if 0 ≤ a1 then
        a1
      else
        -a1
  let s1 : St := f_Rd_putNumber σ t1 t2 0 a2
  s1
def f_Rd_readFloating (σ : St) (a1 : Int64) (a2 : Int32) (a3 : Nat) : St :=
  let t1 : Bool := 
      if 0 ≤ a1 then
        false
      else
        true
  let v1 : Int32 := (jshl 1 a2) - 1
  let v2 : Int32 := (Int64.toInt32 (jlushr a1 (63 - a2))) &&& v1
  let v3 : Int64 := jlushr (jlshl a1 (a2 + 1)) 1
  if v2 = v1 then
    let s3 : St := f_Real_set σ a3 t1 32767 ((-9223372036854775808) ||| v3)
    s3
  else
    let t2 : Bool := 
        if v2 = 0 then
          true
        else
          false
    let t3 : St := 
        if t2 = true then
          if v3 = 0 then
            σ
          else
            let s1 : St := f_Ctl_tell σ 2
            s1
        else
          σ
    let t4 : Int64 := 
        if t2 = true then
          v3
        else
          (-9223372036854775808) ||| v3
    let t5 : Int32 := 
        if t2 = true then
          1
        else
          v2
    let s2 : St := f_Rd_putNumber t3 t1 t4 ((t5 - (jshr v1 1)) - 63) a3
    s2
def b_Rd_readDecimals_6 (σ : St) (t2 : Int32 × Int64) : Bool × (Int32 × Int64) :=
  if t2.1 < 0 then
    (false, (t2.1, t2.2))
  else
    let v1 : Int64 := (t2.2 * 10) + ((jlshr (f_Mem_bits σ (jshr t2.1 1) 1) (4 * (t2.1 &&& 1))) &&& 15)
    let v2 : Int32 := t2.1 + (-1)
    (true, (v2, v1))
def f_Rd_readDecimals (σ : St) (a1 : Nat) : St :=
  let t1 : Int32 × Int64 := lpn ((b_Rd_readDecimals_6 σ)) (dnf 17) (17, 0)
  let t3 : Bool := 
      if (f_Mem_bits σ 9 1) < 128 then
        false
      else
        true
  let s1 : St := f_Rd_putNumber σ t3 t1.2 0 a1
  s1
def f_Rd_read (σ : St) (a1 : Int32) (a2 : Nat) : St :=
  let t1 : St := 
      if a1 = 0 then
        let s1 : St := f_Rd_readWhole σ (Int32.toInt64 (js (Int64.toInt32 (f_Mem_bits σ 0 2)))) a2
        s1
      else
        if a1 = 1 then
          let s2 : St := f_Rd_readWhole σ (Int32.toInt64 (Int64.toInt32 (f_Mem_bits σ 0 4))) a2
          s2
        else
          if a1 = 2 then
            let s3 : St := f_Rd_readWhole σ (f_Mem_bits σ 0 8) a2
            s3
          else
            if a1 = 3 then
              let s4 : St := f_Rd_readFloating σ (jlshl (f_Mem_bits σ 0 4) 32) 8 a2
              s4
            else
              if a1 = 4 then
                let s5 : St := f_Rd_readFloating σ (f_Mem_bits σ 0 8) 11 a2
                s5
              else
                if a1 = 5 then
                  let s6 : St := f_Rd_readDecimals σ a2
                  s6
                else
                  let s7 : St := f_Rd_readPattern σ 0 a2
                  s7
  t1
def f_Wr_writePattern (σ : St) (a1 : Int32) (a2 : Nat) : St :=
  let s1 : St := f_Mem_put σ a1 8 (gJ σ 17 a2)
  let s2 : St := f_Mem_put s1 (a1 + 8) 2 (Int32.toInt64 (f_Real_top s1 a2))
  s2
def f_Wr_roundToWhole (σ : St) (a1 : Nat) (a2 : Int32) : Bool × St :=
  if gI σ 16 a1 = 32767 then
    (false, σ)
  else
    if (f_Size_exponent σ 9) ≤ 63 then
      let s1 : St := f_Size_round σ 9 (-(gI σ 11 9)) a2 (gZ σ 15 a1)
      (true, s1)
    else
      (false, σ)
def f_Wr_isWithin_b15 (a1 : Int64) (a2 : Bool) (a3 : Int64) : Bool :=
  if a2 = true then
    if a1 = -a3 then
      true
    else
      false
  else
    false
def f_Wr_isWithin (a1 : Int64) (a2 : Bool) (a3 : Int64) : Bool :=
  let t1 : Bool := 
      if a1 < 0 then
        f_Wr_isWithin_b15 a1 a2 a3
      else
        if a1 ≤ (-(a3 + 1)) then
          true
        else
          f_Wr_isWithin_b15 a1 a2 a3
  t1
def f_Wr_writeWhole_b100 (v1 : Int64) (r1 : Bool × St) : Int64 × St :=
  let s2 : St := f_Ctl_tell r1.2 1
  (v1, s2)
def f_Wr_writeWhole (σ : St) (a1 : Int32) (a2 : Nat) : St :=
  let v1 : Int64 := jlshl (-1) ((8 * a1) - 1)
  let r1 : Bool × St := f_Wr_roundToWhole σ a2 (f_Ctl_rounding σ)
  let t1 : Int64 × St := 
      if r1.1 = true then
        if f_Wr_isWithin (gJ r1.2 12 9) (gZ r1.2 15 a2) v1 = true then
          let t2 : Int64 := 
              if gZ r1.2 15 a2 = true then
                -(gJ r1.2 12 9)
              else
                gJ r1.2 12 9
          let t3 : Int32 := 
              if gZ r1.2 13 9 = true then
                32
              else
                0
          let s1 : St := f_Ctl_tell r1.2 t3
          (t2, s1)
        else
          f_Wr_writeWhole_b100 v1 r1
      else
        f_Wr_writeWhole_b100 v1 r1
  let t4 : St := 
      if f_Ctl_endsWriting t1.2 = true then
        t1.2
      else
        let s3 : St := f_Mem_put t1.2 0 a1 t1.1
        s3
  t4
def f_Wr_numberPattern_b222 (a1 : Nat) (a4 : Int64) (x1 : St) : Int64 × St :=
  let t2 : Int32 := 
      if f_Ctl_masks x1 8 = true then
        40
      else
        8
  let s3 : St := f_Ctl_tell x1 t2
  let t3 : Int64 := 
      if f_Ctl_overBecomesInfinite s3 (gZ s3 15 a1) = true then
        a4
      else
        a4 - 1
  (t3, s3)
def f_Wr_numberPattern (σ : St) (a1 : Nat) (a2 : Int32) (a3 : Int32) (a4 : Int64) : Int64 × St :=
  let v1 : Int32 := f_Size_exponent σ 9
  if (2 - a3) ≤ v1 then
    if a3 ≤ v1 then
      f_Wr_numberPattern_b222 a1 a4 σ
    else
      let s1 : St := f_Size_round σ 9 (128 - a2) (f_Ctl_rounding σ) (gZ σ 15 a1)
      let v2 : Int64 := (jlshl (Int32.toInt64 ((v1 + a3) - 2)) (a2 - 1)) + (gJ s1 12 9)
      if a4 ≤ v2 then
        f_Wr_numberPattern_b222 a1 a4 s1
      else
        let t1 : Int32 := 
            if gZ s1 13 9 = true then
              32
            else
              0
        let s2 : St := f_Ctl_tell s1 t1
        (v2, s2)
  else
    let s4 : St := f_Size_round σ 9 (((3 - a3) - a2) - (gI σ 11 9)) (f_Ctl_rounding σ) (gZ σ 15 a1)
    let t4 : Bool := 
        if gZ s4 13 9 = true then
          true
        else
          if f_Ctl_masks s4 16 = true then
            false
          else
            true
    let t5 : Int32 := 
        if t4 = true then
          16
        else
          0
    let s5 : St := f_Ctl_tell s4 t5
    let t6 : Int32 := 
        if gZ s5 13 9 = true then
          if f_Ctl_masks s5 16 = true then
            32
          else
            0
        else
          0
    let s6 : St := f_Ctl_tell s5 t6
    (gJ s6 12 9, s6)
def f_Wr_writeFloating (σ : St) (a1 : Int32) (a2 : Int32) (a3 : Nat) : St :=
  let v1 : Int32 := a2 - 1
  let v2 : Int64 := jlshl ((jlshl 1 ((8 * a1) - a2)) - 1) v1
  let v3 : Bool := gZ σ 15 a3
  let t1 : Int64 × Bool × St := 
      if f_Real_isInfinite σ a3 = true then
        (v2, v3, σ)
      else
        if f_Real_isNothing σ a3 = true then
          (0, v3, σ)
        else
          if f_Real_kind σ a3 = 5 then
            let s2 : St := f_Ctl_tell σ 1
            let v5 : Int64 := jlushr (jlshl (gJ s2 17 a3) 1) (64 - v1)
            let t2 : Int64 := 
                if v5 = 0 then
                  1
                else
                  v5
            let v6 : Int64 := v2 ||| t2
            (v6, v3, s2)
          else
            if f_Real_isUnnormalSomething σ a3 = true then
              let s1 : St := f_Ctl_tell σ 1
              let v4 : Int64 := v2 ||| (jlshl 1 (v1 - 1))
              (v4, true, s1)
            else
              let r1 : Int64 × St := f_Wr_numberPattern σ a3 a2 (jshl 1 (((8 * a1) - a2) - 1)) v2
              (r1.1, v3, r1.2)
  let t3 : St := 
      if f_Ctl_endsWriting t1.2.2 = true then
        t1.2.2
      else
        let t4 : Int64 := 
            if t1.2.1 = true then
              jlshl 1 ((8 * a1) - 1)
            else
              0
        let s3 : St := f_Mem_put t1.2.2 0 a1 (t1.1 ||| t4)
        s3
  t3
def b_Wr_writeDecimals_125 (t4 : Int32 × Int64 × St) : Bool × (Int32 × Int64 × St) :=
  if 9 ≤ t4.1 then
    (false, (t4.1, t4.2.1, t4.2.2))
  else
    let v2 : Int32 := Int64.toInt32 (jlrem t4.2.1 100)
    let s2 : St := f_Mem_put t4.2.2 t4.1 1 (Int32.toInt64 ((jshl (v2 / 10) 4) ||| (jrem v2 10)))
    let v3 : Int64 := t4.2.1 / 100
    let v4 : Int32 := t4.1 + 1
    (true, (v4, v3, s2))
def f_Wr_writeDecimals (σ : St) (a1 : Nat) : St :=
  let r1 : Bool × St := f_Wr_roundToWhole σ a1 4
  let t1 : Bool := 
      if r1.1 = true then
        if (gJ r1.2 12 9) < 0 then
          false
        else
          if 1000000000000000000 ≤ (gJ r1.2 12 9) then
            false
          else
            true
      else
        false
  let t2 : Int32 := 
      if t1 = true then
        if gZ r1.2 13 9 = true then
          32
        else
          0
      else
        1
  let s1 : St := f_Ctl_tell r1.2 t2
  if f_Ctl_endsWriting s1 = true then
    s1
  else
    if t1 = true then
      let v1 : Int64 := gJ s1 12 9
      let t3 : Int32 × Int64 × St := lpn ((b_Wr_writeDecimals_125)) (upf 9 0) (0, v1, s1)
      let t5 : Int64 := 
          if gZ t3.2.2 15 a1 = true then
            128
          else
            0
      let s3 : St := f_Mem_put t3.2.2 9 1 t5
      s3
    else
      let s4 : St := f_Mem_put s1 0 8 (-4611686018427387904)
      let s5 : St := f_Mem_put s4 8 2 65535
      s5
def f_Wr_write (σ : St) (a1 : Int32) (a2 : Nat) : St :=
  let s1 : St := f_Size_load σ 9 a2
  let t1 : St := 
      if a1 = 0 then
        let s2 : St := f_Wr_writeWhole s1 2 a2
        s2
      else
        if a1 = 1 then
          let s3 : St := f_Wr_writeWhole s1 4 a2
          s3
        else
          if a1 = 2 then
            let s4 : St := f_Wr_writeWhole s1 8 a2
            s4
          else
            if a1 = 3 then
              let s5 : St := f_Wr_writeFloating s1 4 24 a2
              s5
            else
              if a1 = 4 then
                let s6 : St := f_Wr_writeFloating s1 8 53 a2
                s6
              else
                if a1 = 5 then
                  let s7 : St := f_Wr_writeDecimals s1 a2
                  s7
                else
                  let s8 : St := f_Wr_writePattern s1 0 a2
                  s8
  t1
def f_Oper_cannotBe_b196 (σ : St) (a2 : Nat) : Bool :=
  if f_Real_isUnnormalSomething σ a2 = true then
    true
  else
    if f_Real_isInfinite σ a2 = true then
      if f_Ctl_knowsOneInfinite σ = true then
        true
      else
        false
    else
      false
def f_Oper_cannotBe_b169 (σ : St) (a3 : Nat) : Bool :=
  if f_Real_isUnnormalSomething σ a3 = true then
    true
  else
    false
def f_Oper_cannotBe_b130 (σ : St) (a2 : Nat) (a3 : Nat) : Bool :=
  if f_Real_isNothing σ a2 = true then
    if f_Real_isInfinite σ a3 = true then
      true
    else
      false
  else
    false
def f_Oper_cannotBe (σ : St) (a1 : Int32) (a2 : Nat) (a3 : Nat) : Bool :=
  let t1 : Bool := 
      if f_Real_isInfinite σ a2 = true then
        if f_Real_isInfinite σ a3 = true then
          true
        else
          false
      else
        false
  if a1 = 0 then
    let t2 : Bool := 
        if t1 = true then
          if f_Ctl_knowsOneInfinite σ = true then
            true
          else
            if gZ σ 15 a2 = gZ σ 15 a3 then
              false
            else
              true
        else
          false
    t2
  else
    if a1 = 1 then
      let t3 : Bool := 
          if t1 = true then
            if f_Ctl_knowsOneInfinite σ = true then
              true
            else
              if gZ σ 15 a2 = gZ σ 15 a3 then
                true
              else
                false
          else
            false
      t3
    else
      if a1 = 2 then
        let t4 : Bool := 
            if f_Real_isInfinite σ a2 = true then
              if f_Real_isNothing σ a3 = true then
                true
              else
                f_Oper_cannotBe_b130 σ a2 a3
            else
              f_Oper_cannotBe_b130 σ a2 a3
        t4
      else
        if a1 = 3 then
          let t5 : Bool := 
              if t1 = true then
                true
              else
                if f_Real_isNothing σ a2 = true then
                  if f_Real_isNothing σ a3 = true then
                    true
                  else
                    f_Oper_cannotBe_b169 σ a3
                else
                  f_Oper_cannotBe_b169 σ a3
          t5
        else
          let t6 : Bool := 
              if gZ σ 15 a2 = true then
                if f_Real_isNothing σ a2 = true then
                  f_Oper_cannotBe_b196 σ a2
                else
                  true
              else
                f_Oper_cannotBe_b196 σ a2
          t6
def f_Oper_answerInfinite_b89 (σ : St) (a2 : Nat) (a3 : Nat) (a4 : Nat) : St :=
  let t3 : Bool := 
      if gZ σ 15 a2 = gZ σ 15 a3 then
        false
      else
        true
  let s2 : St := f_Real_setInfinite σ a4 t3
  s2
def f_Oper_answerInfinite_b9 (σ : St) (a1 : Int32) (a2 : Nat) (a3 : Nat) (a4 : Nat) : St :=
  let t4 : Bool := 
      if f_Real_isInfinite σ a2 = true then
        gZ σ 15 a2
      else
        let t5 : Bool := 
            if a1 = 1 then
              true
            else
              false
        if gZ σ 15 a3 = t5 then
          false
        else
          true
  let s3 : St := f_Real_setInfinite σ a4 t4
  s3
def f_Oper_answerInfinite (σ : St) (a1 : Int32) (a2 : Nat) (a3 : Nat) (a4 : Nat) : St :=
  let t1 : St := 
      if a1 = 0 then
        f_Oper_answerInfinite_b9 σ a1 a2 a3 a4
      else
        if a1 = 1 then
          f_Oper_answerInfinite_b9 σ a1 a2 a3 a4
        else
          if a1 = 3 then
            if f_Real_isInfinite σ a2 = true then
              f_Oper_answerInfinite_b89 σ a2 a3 a4
            else
              let t2 : Bool := 
                  if gZ σ 15 a2 = gZ σ 15 a3 then
                    false
                  else
                    true
              let s1 : St := f_Real_setZero σ a4 t2
              s1
          else
            f_Oper_answerInfinite_b89 σ a2 a3 a4
  t1
def f_Oper_addWithSigns (σ : St) (a1 : Bool) (a2 : Bool) : Bool × St :=
  let v1 : Int32 := f_Size_against σ 4 5
  let t1 : St := 
      if 0 ≤ v1 then
        σ
      else
        let s1 : St := f_Size_swap σ 4 5
        s1
  if a1 = a2 then
    let s3 : St := f_Size_add t1 4 5
    (a1, s3)
  else
    let s2 : St := f_Size_subtract t1 4 5
    if v1 = 0 then
      let t3 : Bool := 
          if f_Ctl_rounding s2 = 1 then
            true
          else
            false
      (t3, s2)
    else
      let t2 : Bool := 
          if v1 ≤ 0 then
            a2
          else
            a1
      (t2, s2)
def f_Oper_findSize (σ : St) (a1 : Int32) (a2 : Nat) (a3 : Nat) : Bool × St :=
  let s1 : St := f_Size_load σ 4 a2
  let s2 : St := f_Size_load s1 5 a3
  if a1 = 0 then
    let r1 : Bool × St := f_Oper_addWithSigns s2 (gZ s2 15 a2) (gZ s2 15 a3)
    (r1.1, r1.2)
  else
    if a1 = 1 then
      let t1 : Bool := 
          if gZ s2 15 a3 = true then
            false
          else
            true
      let r2 : Bool × St := f_Oper_addWithSigns s2 (gZ s2 15 a2) t1
      (r2.1, r2.2)
    else
      if a1 = 2 then
        let s3 : St := f_Size_multiply s2 4 5
        let t2 : Bool := 
            if gZ s3 15 a2 = gZ s3 15 a3 then
              false
            else
              true
        (t2, s3)
      else
        if a1 = 3 then
          let s4 : St := f_Size_divide s2 4 5
          let t3 : Bool := 
              if gZ s4 15 a2 = gZ s4 15 a3 then
                false
              else
                true
          (t3, s4)
        else
          let s5 : St := f_Size_root s2 4
          (gZ s5 15 a2, s5)
def f_Oper_operate_b87 (a1 : Int32) (a2 : Nat) (a3 : Nat) (a4 : Nat) (r1 : Bool × St) : St :=
  let s4 : St := f_Oper_answerInfinite r1.2 a1 a2 a3 a4
  s4
def f_Oper_operate_b73 (a1 : Int32) (a2 : Nat) (a3 : Nat) (a4 : Nat) (r1 : Bool × St) : St :=
  if f_Real_isInfinite r1.2 a2 = true then
    f_Oper_operate_b87 a1 a2 a3 a4 r1
  else
    if f_Real_isInfinite r1.2 a3 = true then
      f_Oper_operate_b87 a1 a2 a3 a4 r1
    else
      let r2 : Bool × St := f_Oper_findSize r1.2 a1 a2 a3
      let s3 : St := f_Maker_make r2.2 10 4 r2.1 (f_Ctl_digits r2.2) a4
      s3
def f_Oper_operate (σ : St) (a1 : Int32) (a2 : Nat) (a3 : Nat) (a4 : Nat) : St :=
  let r1 : Bool × St := f_Ctl_settles σ a2 a3 (f_Oper_cannotBe σ a1 a2 a3) a4
  if r1.1 = true then
    r1.2
  else
    let t1 : St := 
        if a1 = 3 then
          if f_Real_isNothing r1.2 a3 = true then
            if f_Real_isInfinite r1.2 a2 = true then
              f_Oper_operate_b73 a1 a2 a3 a4 r1
            else
              let s1 : St := f_Ctl_tell r1.2 4
              let t2 : Bool := 
                  if gZ s1 15 a2 = gZ s1 15 a3 then
                    false
                  else
                    true
              let s2 : St := f_Real_setInfinite s1 a4 t2
              s2
          else
            f_Oper_operate_b73 a1 a2 a3 a4 r1
        else
          f_Oper_operate_b73 a1 a2 a3 a4 r1
    t1
def f_Steps_sign (σ : St) (a1 : Nat) : Int32 :=
  if f_Real_isNothing σ a1 = true then
    0
  else
    let t1 : Int32 := 
        if gZ σ 15 a1 = true then
          (-1)
        else
          1
    t1
def f_Steps_compare_b59 (a1 : Nat) (a2 : Nat) (v1 : Bool) (r1 : Bool × St) : Int32 × St :=
  let t3 : Int32 := 
      if f_Real_isInfinite r1.2 a1 = true then
        f_Steps_sign r1.2 a1
      else
        0
  let t4 : Int32 := 
      if f_Real_isInfinite r1.2 a2 = true then
        f_Steps_sign r1.2 a2
      else
        0
  let t5 : Int32 := 
      if v1 = true then
        0
      else
        if t3 = t4 then
          0
        else
          if t4 ≤ t3 then
            1
          else
            (-1)
  (t5, r1.2)
def f_Steps_compare (σ : St) (a1 : Nat) (a2 : Nat) (a3 : Nat) : Int32 × St :=
  let v1 : Bool := f_Ctl_knowsOneInfinite σ
  let t1 : Bool := 
      if v1 = true then
        if f_Real_isInfinite σ a1 = f_Real_isInfinite σ a2 then
          false
        else
          true
      else
        false
  let r1 : Bool × St := f_Ctl_settles σ a1 a2 t1 a3
  if r1.1 = true then
    (2, r1.2)
  else
    if f_Real_isInfinite r1.2 a1 = true then
      f_Steps_compare_b59 a1 a2 v1 r1
    else
      if f_Real_isInfinite r1.2 a2 = true then
        f_Steps_compare_b59 a1 a2 v1 r1
      else
        let v2 : Int32 := f_Steps_sign r1.2 a1
        let v3 : Int32 := f_Steps_sign r1.2 a2
        if v2 = v3 then
          let s1 : St := f_Size_load r1.2 6 a1
          let s2 : St := f_Size_load s1 7 a2
          (v2 * (f_Size_against s2 6 7), s2)
        else
          let t2 : Int32 := 
              if v3 ≤ v2 then
                1
              else
                (-1)
          (t2, r1.2)
def f_Steps_extract (σ : St) (a1 : Nat) (a2 : Nat) (a3 : Nat) : St :=
  let r1 : Bool × St := f_Ctl_settles σ a1 a1 false a3
  let t1 : St := 
      if r1.1 = true then
        let s11 : St := f_Real_take r1.2 a2 a3
        s11
      else
        if f_Real_isInfinite r1.2 a1 = true then
          let s9 : St := f_Real_setInfinite r1.2 a2 false
          let s10 : St := f_Real_take s9 a3 a1
          s10
        else
          if f_Real_isNothing r1.2 a1 = true then
            let s6 : St := f_Ctl_tell r1.2 4
            let s7 : St := f_Real_setInfinite s6 a2 true
            let s8 : St := f_Real_setZero s7 a3 (gZ s7 15 a1)
            s8
          else
            let s1 : St := f_Size_load r1.2 6 a1
            let v1 : Int32 := f_Size_exponent s1 6
            let s2 : St := sI s1 11 6 (-127)
            let s3 : St := f_Maker_make s2 11 6 (gZ s2 15 a1) 64 a3
            let t2 : Int64 := 
                if 0 ≤ v1 then
                  Int32.toInt64 v1
                else
                  Int32.toInt64 (-v1)
            let s4 : St := f_Size_loadTimes s3 6 t2 0
            let t3 : Bool := 
                if 0 ≤ v1 then
                  false
                else
                  true
            let s5 : St := f_Maker_make s4 11 6 t3 64 a2
            s5
  t1
def f_Steps_takeRemainder (σ : St) (a1 : Nat) (a2 : Nat) (a3 : Nat) : St :=
  let s1 : St := sZ σ 18 25 false
  let t1 : Bool := 
      if f_Real_isInfinite s1 a1 = true then
        true
      else
        if f_Real_isNothing s1 a2 = true then
          true
        else
          if f_Real_kind s1 a2 = 2 then
            true
          else
            false
  let r1 : Bool × St := f_Ctl_settles s1 a1 a2 t1 a3
  if r1.1 = true then
    r1.2
  else
    let s2 : St := sZ r1.2 18 25 true
    let s3 : St := sZ s2 19 25 false
    let s4 : St := sI s3 20 25 0
    let s5 : St := f_Size_load s4 6 a1
    let t2 : St := 
        if f_Real_isInfinite s5 a2 = true then
          s5
        else
          let s6 : St := f_Size_load s5 7 a2
          let v1 : Int32 := (f_Size_exponent s6 6) - (f_Size_exponent s6 7)
          let t3 : Bool := 
              if v1 < 64 then
                false
              else
                true
          let s7 : St := sZ s6 19 25 t3
          if v1 < 0 then
            s7
          else
            let t4 : Int32 := 
                if gZ s7 19 25 = true then
                  63
                else
                  v1
            let r2 : Int32 × St := f_Size_reduce s7 6 7 t4 (v1 - t4)
            let s8 : St := sI r2.2 20 25 r2.1
            s8
    let s9 : St := f_Maker_make t2 11 6 (gZ t2 15 a1) 64 a3
    s9
def f_Steps_makeWhole (σ : St) (a1 : Nat) (a2 : Nat) : St :=
  let r1 : Bool × St := f_Ctl_settles σ a1 a1 false a2
  if r1.1 = true then
    r1.2
  else
    if f_Real_isInfinite r1.2 a1 = true then
      let s6 : St := f_Real_take r1.2 a2 a1
      s6
    else
      let s1 : St := f_Size_load r1.2 6 a1
      let t1 : St := 
          if (-64) ≤ (gI s1 11 6) then
            s1
          else
            let s2 : St := f_Size_round s1 6 (-(gI s1 11 6)) (f_Ctl_rounding s1) (gZ s1 15 a1)
            let t2 : Int32 := 
                if gZ s2 13 6 = true then
                  32
                else
                  0
            let s3 : St := f_Ctl_tell s2 t2
            let s4 : St := f_Size_loadTimes s3 6 (gJ s3 12 6) 0
            s4
      let s5 : St := f_Maker_make t1 11 6 (gZ t1 15 a1) 64 a2
      s5
def f_Steps_scale (σ : St) (a1 : Nat) (a2 : Nat) (a3 : Nat) : St :=
  let s1 : St := f_Size_load σ 7 a2
  let v1 : Int32 := f_Size_exponent s1 7
  let t1 : Bool := 
      if f_Real_isInfinite s1 a2 = true then
        true
      else
        if v1 < 14 then
          false
        else
          true
  let r1 : Bool × St := f_Ctl_settles s1 a1 a2 t1 a3
  if r1.1 = true then
    r1.2
  else
    if f_Real_isInfinite r1.2 a1 = true then
      let s5 : St := f_Real_take r1.2 a3 a1
      s5
    else
      let t2 : Int32 := 
          if 0 ≤ v1 then
            Int64.toInt32 (jlushr (gJ r1.2 8 7) (63 - v1))
          else
            0
      let s2 : St := f_Size_load r1.2 6 a1
      let t3 : Int32 := 
          if gZ s2 15 a2 = true then
            -t2
          else
            t2
      let s3 : St := sI s2 11 6 ((gI s2 11 6) + t3)
      let s4 : St := f_Maker_make s3 11 6 (gZ s3 15 a1) 64 a3
      s4
def b_PS_beInitial_27 (t2 : Int32 × St) : Bool × (Int32 × St) :=
  if 8 ≤ t2.1 then
    (false, (t2.1, t2.2))
  else
    let s5 : St := sZ t2.2 101 (jat t2.1) true
    let v1 : Int32 := t2.1 + 1
    (true, (v1, s5))
def f_PS_beInitial (σ : St) : St :=
  let s1 : St := sI σ 6 3 1023
  let s2 : St := sI s1 1 0 0
  let s3 : St := sI s2 2 0 0
  let s4 : St := sI s3 0 0 0
  let t1 : Int32 × St := lpn ((b_PS_beInitial_27)) (upf 8 0) (0, s4)
  let s6 : St := sI t1.2 3 0 0
  let s7 : St := sI s6 4 0 0
  let s8 : St := sI s7 5 0 0
  s8
def f_PS_isPattern (a1 : Int32) (a2 : Int32) : Bool :=
  let t1 : Bool := 
      if a1 < 0 then
        false
      else
        if 7 < a1 then
          false
        else
          if a2 < 0 then
            false
          else
            if 255 < a2 then
              false
            else
              true
  t1
def f_PS_isPlace (a1 : Int32) : Bool :=
  let t1 : Bool := 
      if a1 < 0 then
        false
      else
        if 1048576 ≤ a1 then
          false
        else
          true
  t1
def f_PS_sortOf_b67 (a1 : Int32) (v1 : Int32) (v2 : Int32) : Int32 :=
  let t1 : Bool := 
      if (jshr (tb1.getD (jat ((a1 * 8) + v1)) 0) v2) &&& 1 = 0 then
        true
      else
        false
  bI t1
def f_PS_sortOf_b54 (a1 : Int32) (v1 : Int32) (v2 : Int32) : Int32 :=
  if v1 = 7 then
    if v2 = 1 then
      2
    else
      f_PS_sortOf_b67 a1 v1 v2
  else
    f_PS_sortOf_b67 a1 v1 v2
def f_PS_sortOf (σ : St) (a1 : Int32) (a2 : Int32) : Int32 :=
  let v1 : Int32 := (jshr a2 3) &&& 7
  let v2 : Int32 := a2 &&& 7
  if 192 ≤ a2 then
    if a1 = 1 then
      if v1 = 6 then
        if v2 < 4 then
          2
        else
          f_PS_sortOf_b54 a1 v1 v2
      else
        f_PS_sortOf_b54 a1 v1 v2
    else
      f_PS_sortOf_b67 a1 v1 v2
  else
    let t2 : Bool := 
        if tb0.getD (jat ((a1 * 8) + v1)) 0 = 0 then
          true
        else
          false
    bI t2
def b_PS_readEnvironment_69 (v2 : Int32) (t2 : Int32 × St) : Bool × (Int32 × St) :=
  if 8 ≤ t2.1 then
    (false, (t2.1, t2.2))
  else
    let t3 : Bool := 
        if (jshr v2 (2 * t2.1)) &&& 3 = 3 then
          true
        else
          false
    let s5 : St := sZ t2.2 101 (jat t2.1) t3
    let v3 : Int32 := t2.1 + 1
    (true, (v3, s5))
def f_PS_readEnvironment (σ : St) : St :=
  let s1 : St := sI σ 6 3 (Int64.toInt32 (f_Mem_bits σ 0 2))
  let v1 : Int32 := Int64.toInt32 (f_Mem_bits s1 2 2)
  let s2 : St := sI s1 1 0 (v1 &&& 63)
  let s3 : St := sI s2 2 0 (v1 &&& 18176)
  let s4 : St := sI s3 0 0 ((jshr v1 11) &&& 7)
  let v2 : Int32 := Int64.toInt32 (f_Mem_bits s4 4 2)
  let t1 : Int32 × St := lpn ((b_PS_readEnvironment_69 v2)) (upf 8 0) (0, s4)
  let v4 : Int32 := Int64.toInt32 (f_Mem_bits t1.2 8 2)
  let s6 : St := sI t1.2 3 0 (v4 &&& 2047)
  let s7 : St := sI s6 4 0 ((jshl (jshr v4 12) 16) ||| (Int64.toInt32 (f_Mem_bits s6 6 2)))
  let s8 : St := sI s7 5 0 ((jshl (Int64.toInt32 (jlshr (f_Mem_bits s7 12 2) 12)) 16) ||| (Int64.toInt32 (f_Mem_bits s7 10 2)))
  s8
def f_PS_place (σ : St) (a1 : Int32) : Int32 :=
  ((gI σ 0 0) + a1) &&& 7
def b_PS_readRegisters_2 (t2 : Int32 × St) : Bool × (Int32 × St) :=
  if 8 ≤ t2.1 then
    (false, (t2.1, t2.2))
  else
    let s1 : St := f_Rd_readPattern t2.2 (14 + (t2.1 * 10)) (16 + jat (f_PS_place t2.2 t2.1))
    let v1 : Int32 := t2.1 + 1
    (true, (v1, s1))
def f_PS_readRegisters (σ : St) : St :=
  let t1 : Int32 × St := lpn ((b_PS_readRegisters_2)) (upf 8 0) (0, σ)
  t1.2
def f_PS_status (σ : St) : Int32 :=
  let t1 : Int32 := 
      if (gI σ 1 0) &&& ((gI σ 6 3) ^^^ (-1)) = 0 then
        0
      else
        128
  (((gI σ 1 0) ||| t1) ||| (gI σ 2 0)) ||| (jshl (gI σ 0 0) 11)
def b_PS_tags_5 (σ : St) (t2 : Int32 × Int32) : Bool × (Int32 × Int32) :=
  if t2.1 < 0 then
    (false, (t2.1, t2.2))
  else
    let t3 : Int32 := 
        if gZ σ 101 (jat t2.1) = true then
          3
        else
          f_Real_tag σ (16 + jat t2.1)
    let v1 : Int32 := (jshl t2.2 2) ||| t3
    let v2 : Int32 := t2.1 + (-1)
    (true, (v2, v1))
def f_PS_tags (σ : St) : Int32 :=
  let t1 : Int32 × Int32 := lpn ((b_PS_tags_5 σ)) (dnf 7) (7, 0)
  t1.2
def f_PS_writeEnvironment (σ : St) : St :=
  let s1 : St := f_Mem_put σ 0 2 (Int32.toInt64 (gI σ 6 3))
  let s2 : St := f_Mem_put s1 2 2 (Int32.toInt64 (f_PS_status s1))
  let s3 : St := f_Mem_put s2 4 2 (Int32.toInt64 (f_PS_tags s2))
  let s4 : St := f_Mem_put s3 6 2 (Int32.toInt64 (gI s3 4 0))
  let s5 : St := f_Mem_put s4 8 2 (Int32.toInt64 ((jshl (jshr (gI s4 4 0) 16) 12) ||| (gI s4 3 0)))
  let s6 : St := f_Mem_put s5 10 2 (Int32.toInt64 (gI s5 5 0))
  let s7 : St := f_Mem_put s6 12 2 (Int32.toInt64 (jshl (jshr (gI s6 5 0) 16) 12))
  s7
def b_PS_writeRegisters_2 (t2 : Int32 × St) : Bool × (Int32 × St) :=
  if 8 ≤ t2.1 then
    (false, (t2.1, t2.2))
  else
    let s1 : St := f_Wr_writePattern t2.2 (14 + (t2.1 * 10)) (16 + jat (f_PS_place t2.2 t2.1))
    let v1 : Int32 := t2.1 + 1
    (true, (v1, s1))
def f_PS_writeRegisters (σ : St) : St :=
  let t1 : Int32 × St := lpn ((b_PS_writeRegisters_2)) (upf 8 0) (0, σ)
  t1.2
def f_PS_doWithWords (σ : St) (a1 : Int32) (a2 : Int32) : St :=
  let t1 : Bool := 
      if a1 = 1 then
        true
      else
        false
  let t2 : St := 
      if a2 = 4 then
        let s1 : St := f_PS_readEnvironment σ
        if t1 = true then
          s1
        else
          let s2 : St := f_PS_readRegisters s1
          s2
      else
        if a2 = 5 then
          let s3 : St := sI σ 6 3 (Int64.toInt32 (f_Mem_bits σ 0 2))
          s3
        else
          if a2 = 6 then
            let s4 : St := f_PS_writeEnvironment σ
            if t1 = true then
              s4
            else
              let s5 : St := f_PS_writeRegisters s4
              let s6 : St := f_PS_beInitial s5
              s6
          else
            let t3 : Int64 := 
                if t1 = true then
                  Int32.toInt64 (gI σ 6 3)
                else
                  Int32.toInt64 (f_PS_status σ)
            let s7 : St := f_Mem_put σ 0 2 t3
            s7
  t2
def f_PS_need (σ : St) (a1 : Int32) (a2 : Nat) : St :=
  let v1 : Int32 := f_PS_place σ a1
  let t1 : St := 
      if gZ σ 101 (jat v1) = true then
        let s2 : St := f_Ctl_tell σ 1
        let s3 : St := f_Real_setIndefinite s2 a2
        s3
      else
        let s1 : St := f_Real_take σ a2 (16 + jat v1)
        s1
  t1
def f_PS_pop (σ : St) : St :=
  let s1 : St := sZ σ 101 (jat (gI σ 0 0)) true
  let s2 : St := sI s1 0 0 (f_PS_place s1 1)
  s2
def b_PS_compare_102 (a1 : Int32) (t4 : Int32 × St) : Bool × (Int32 × St) :=
  if a1 ≤ t4.1 then
    (false, (t4.1, t4.2))
  else
    let s4 : St := f_PS_pop t4.2
    let v1 : Int32 := t4.1 + 1
    (true, (v1, s4))
def f_PS_compare (σ : St) (a1 : Int32) : St :=
  if f_Ctl_ends σ = true then
    σ
  else
    let r1 : Int32 × St := f_Steps_compare σ 12 13 14
    if f_Ctl_ends r1.2 = true then
      r1.2
    else
      let s1 : St := sI r1.2 2 0 ((gI r1.2 2 0) &&& 512)
      let t1 : St := 
          if r1.1 = 2 then
            let s3 : St := sI s1 2 0 ((gI s1 2 0) ||| 17664)
            s3
          else
            if 0 < r1.1 then
              s1
            else
              let t2 : Int32 := 
                  if 0 ≤ r1.1 then
                    16384
                  else
                    256
              let s2 : St := sI s1 2 0 ((gI s1 2 0) ||| t2)
              s2
      let t3 : Int32 × St := lpn ((b_PS_compare_102 a1)) (upf a1 0) (0, t1)
      t3.2
def f_PS_keep (σ : St) (a1 : Int32) (a2 : Nat) : St :=
  let v1 : Int32 := f_PS_place σ a1
  let s1 : St := f_Real_take σ (16 + jat v1) a2
  let s2 : St := sZ s1 101 (jat v1) false
  s2
def f_PS_combine_b21 (σ : St) (a3 : Int32) : St :=
  let s4 : St := f_PS_compare σ a3
  s4
def f_PS_combine (σ : St) (a1 : Int32) (a2 : Int32) (a3 : Int32) : St :=
  if f_Ctl_ends σ = true then
    σ
  else
    if a1 = 2 then
      f_PS_combine_b21 σ a3
    else
      if a1 = 3 then
        f_PS_combine_b21 σ a3
      else
        let t1 : Bool := 
            if a1 = 5 then
              true
            else
              if a1 = 7 then
                true
              else
                false
        let t2 : Int32 := 
            if 6 ≤ a1 then
              3
            else
              let t3 : Int32 := 
                  if a1 = 0 then
                    0
                  else
                    if a1 = 1 then
                      2
                    else
                      1
              t3
        let t4 : Nat := 
            if t1 = true then
              13
            else
              12
        let t5 : Nat := 
            if t1 = true then
              12
            else
              13
        let s1 : St := f_Oper_operate σ t2 t4 t5 14
        if f_Ctl_ends s1 = true then
          s1
        else
          let s2 : St := f_PS_keep s1 a2 14
          let t6 : St := 
              if a3 ≤ 0 then
                s2
              else
                let s3 : St := f_PS_pop s2
                s3
          t6
def f_PS_push (σ : St) (a1 : Nat) : St :=
  let t1 : St := 
      if gZ σ 101 (jat (f_PS_place σ 7)) = true then
        σ
      else
        let s1 : St := f_Ctl_tell σ 1
        let s2 : St := f_Real_setIndefinite s1 a1
        s2
  if f_Ctl_ends t1 = true then
    t1
  else
    let s3 : St := sI t1 0 0 (f_PS_place t1 7)
    let s4 : St := f_PS_keep s3 0 a1
    s4
def f_PS_pushRead (σ : St) (a1 : Int32) : St :=
  let t1 : St := 
      if gZ σ 101 (jat (f_PS_place σ 7)) = true then
        let s1 : St := f_Rd_read σ a1 14
        s1
      else
        σ
  let s2 : St := f_PS_push t1 14
  s2
def f_PS_store (σ : St) (a1 : Int32) (a2 : Bool) : St :=
  let s1 : St := f_PS_need σ 0 12
  if f_Ctl_ends s1 = true then
    s1
  else
    let s2 : St := f_Wr_write s1 a1 12
    let t1 : St := 
        if a2 = true then
          if f_Ctl_endsWriting s2 = true then
            s2
          else
            let s3 : St := f_PS_pop s2
            s3
        else
          s2
    t1
def f_PS_doWithMemory (σ : St) (a1 : Int32) (a2 : Int32) : St :=
  let v1 : Int32 := tb2.getD (jat ((a1 * 8) + a2)) 0
  let t1 : St := 
      if 0 ≤ v1 then
        if a1 &&& 1 = 0 then
          let s3 : St := f_PS_need σ 0 12
          let t3 : St := 
              if f_Ctl_ends s3 = true then
                s3
              else
                let s4 : St := f_Rd_read s3 v1 13
                s4
          let t4 : Bool := 
              if a2 = 3 then
                true
              else
                false
          let s5 : St := f_PS_combine t3 a2 0 (bI t4)
          s5
        else
          if (tb0.getD (jat ((a1 * 8) + a2)) 0) ≤ 0 then
            let t2 : Bool := 
                if a2 = 2 then
                  false
                else
                  true
            let s1 : St := f_PS_store σ v1 t2
            s1
          else
            let s2 : St := f_PS_pushRead σ v1
            s2
      else
        let s6 : St := f_PS_doWithWords σ a1 a2
        s6
  t1
def f_PS_exchange (σ : St) (a1 : Int32) : St :=
  let s1 : St := f_PS_need σ 0 12
  let s2 : St := f_PS_need s1 a1 13
  if f_Ctl_ends s2 = true then
    s2
  else
    let s3 : St := f_PS_keep s2 0 13
    let s4 : St := f_PS_keep s3 a1 12
    s4
def f_PS_examine (σ : St) : St :=
  let t1 : Int32 := 
      if gZ σ 101 (jat (gI σ 0 0)) = true then
        9
      else
        let t2 : Int32 := 
            if gZ σ 15 (16 + jat (gI σ 0 0)) = true then
              2
            else
              0
        let v1 : Int32 := (tb5.getD (jat (f_Real_kind σ (16 + jat (gI σ 0 0)))) 0) + t2
        v1
  let s1 : St := sI σ 2 0 ((jshl (t1 &&& 7) 8) ||| (jshl (t1 &&& 8) 11))
  s1
def f_PS_doWithFirst (σ : St) (a1 : Int32) : St :=
  if a1 = 5 then
    let s6 : St := f_PS_examine σ
    s6
  else
    let s1 : St := f_PS_need σ 0 12
    let t1 : St := 
        if a1 = 4 then
          let s4 : St := f_Real_setZero s1 13 false
          let s5 : St := f_PS_compare s4 0
          s5
        else
          if f_Ctl_ends s1 = true then
            s1
          else
            let t2 : Bool := 
                if a1 = 0 then
                  if gZ s1 15 12 = true then
                    false
                  else
                    true
                else
                  false
            let s2 : St := sZ s1 15 12 t2
            let s3 : St := f_PS_keep s2 0 12
            s3
    t1
def f_PS_extract (σ : St) : St :=
  let s1 : St := f_PS_need σ 0 12
  let t1 : Bool := 
      if gZ s1 101 (jat (f_PS_place s1 7)) = true then
        false
      else
        true
  let t2 : St := 
      if t1 = true then
        let s2 : St := f_Ctl_tell s1 1
        s2
      else
        s1
  if f_Ctl_ends t2 = true then
    t2
  else
    let s3 : St := f_Steps_extract t2 12 14 15
    if f_Ctl_ends s3 = true then
      s3
    else
      let t3 : St := 
          if t1 = true then
            let s4 : St := f_Real_setIndefinite s3 15
            s4
          else
            s3
      let s5 : St := f_PS_keep t3 0 14
      let s6 : St := sI s5 0 0 (f_PS_place s5 7)
      let s7 : St := f_PS_keep s6 0 15
      s7
def f_PS_showQuotient (σ : St) : St :=
  let v1 : Int32 := gI σ 20 25
  let t1 : Int32 := 
      if gZ σ 19 25 = true then
        1024
      else
        0
  let s1 : St := sI σ 2 0 t1
  let t2 : Int32 := 
      if v1 &&& 4 = 0 then
        0
      else
        256
  let s2 : St := sI s1 2 0 ((gI s1 2 0) ||| t2)
  let t3 : Int32 := 
      if v1 &&& 2 = 0 then
        0
      else
        16384
  let s3 : St := sI s2 2 0 ((gI s2 2 0) ||| t3)
  let t4 : Int32 := 
      if v1 &&& 1 = 0 then
        0
      else
        512
  let s4 : St := sI s3 2 0 ((gI s3 2 0) ||| t4)
  s4
def f_PS_doStep_b18 (s1 : St) : St :=
  let s2 : St := f_PS_need s1 1 13
  s2
def f_PS_doStep (σ : St) (a1 : Int32) : St :=
  let s1 : St := f_PS_need σ 0 12
  let t1 : St := 
      if a1 = 0 then
        f_PS_doStep_b18 s1
      else
        if a1 = 5 then
          f_PS_doStep_b18 s1
        else
          s1
  if f_Ctl_ends t1 = true then
    t1
  else
    let t2 : St := 
        if a1 = 0 then
          let s6 : St := f_Steps_takeRemainder t1 12 13 14
          s6
        else
          if a1 = 2 then
            let s5 : St := f_Oper_operate t1 4 12 12 14
            s5
          else
            if a1 = 4 then
              let s4 : St := f_Steps_makeWhole t1 12 14
              s4
            else
              let s3 : St := f_Steps_scale t1 12 13 14
              s3
    if f_Ctl_ends t2 = true then
      t2
    else
      let s7 : St := f_PS_keep t2 0 14
      let t3 : St := 
          if a1 = 0 then
            if gZ s7 18 25 = true then
              let s8 : St := f_PS_showQuotient s7
              s8
            else
              s7
          else
            s7
      t3
def f_PS_doOwn (σ : St) (a1 : Int32) (a2 : Int32) : St :=
  let t1 : St := 
      if a1 = 0 then
        let s1 : St := f_PS_need σ a2 12
        let s2 : St := f_PS_push s1 12
        s2
      else
        if a1 = 1 then
          let s3 : St := f_PS_exchange σ a2
          s3
        else
          if a1 = 2 then
            σ
          else
            if a1 = 3 then
              σ
            else
              if a1 = 4 then
                let s4 : St := f_PS_doWithFirst σ a2
                s4
              else
                if a1 = 5 then
                  let s5 : St := f_Real_set σ 14 false (tb3.getD (jat a2) 0) (tb4.getD (jat a2) 0)
                  let s6 : St := f_PS_push s5 14
                  s6
                else
                  if a1 = 6 then
                    if a2 = 4 then
                      let s8 : St := f_PS_extract σ
                      s8
                    else
                      let t2 : Int32 := 
                          if a2 = 6 then
                            7
                          else
                            1
                      let s7 : St := sI σ 0 0 (f_PS_place σ t2)
                      s7
                  else
                    if a1 = 7 then
                      let s9 : St := f_PS_doStep σ a2
                      s9
                    else
                      σ
  t1
def f_PS_doWithControl (σ : St) (a1 : Int32) : St :=
  let t1 : St := 
      if a1 = 0 then
        let s1 : St := sI σ 6 3 ((gI σ 6 3) &&& (-129))
        s1
      else
        if a1 = 1 then
          let s2 : St := sI σ 6 3 ((gI σ 6 3) ||| 128)
          s2
        else
          if a1 = 2 then
            let s3 : St := sI σ 1 0 0
            s3
          else
            let s4 : St := f_PS_beInitial σ
            s4
  t1
def f_PS_move (σ : St) (a1 : Int32) (a2 : Int32) : St :=
  if a1 = 0 then
    let s4 : St := sZ σ 101 (jat (f_PS_place σ a2)) true
    s4
  else
    let s1 : St := f_PS_need σ 0 12
    if f_Ctl_ends s1 = true then
      s1
    else
      let s2 : St := f_PS_keep s1 a2 12
      let t1 : St := 
          if a1 = 3 then
            let s3 : St := f_PS_pop s2
            s3
          else
            s2
      t1
def f_PS_doWithRegisters (σ : St) (a1 : Int32) (a2 : Int32) (a3 : Int32) : St :=
  let t1 : St := 
      if a1 = 0 then
        let s1 : St := f_PS_need σ 0 12
        let s2 : St := f_PS_need s1 a3 13
        let t2 : Bool := 
            if a2 = 3 then
              true
            else
              false
        let s3 : St := f_PS_combine s2 a2 0 (bI t2)
        s3
      else
        if a1 = 1 then
          σ
        else
          if a1 = 2 then
            σ
          else
            if a1 = 3 then
              let s4 : St := f_PS_doWithControl σ a3
              s4
            else
              if a1 = 4 then
                let s5 : St := f_PS_need σ 0 12
                let s6 : St := f_PS_need s5 a3 13
                let s7 : St := f_PS_combine s6 a2 a3 0
                s7
              else
                if a1 = 5 then
                  let s8 : St := f_PS_move σ a2 a3
                  s8
                else
                  if a1 = 6 then
                    let s9 : St := f_PS_need σ 0 12
                    let s10 : St := f_PS_need s9 a3 13
                    let t3 : Int32 := 
                        if a2 = 3 then
                          2
                        else
                          1
                    let s11 : St := f_PS_combine s10 a2 a3 t3
                    s11
                  else
                    σ
  t1
def f_PS_keepsPointers_b28 (a2 : Int32) : Bool :=
  if 4 ≤ ((jshr a2 3) &&& 7) then
    false
  else
    true
def f_PS_keepsPointers (a1 : Int32) (a2 : Int32) : Bool :=
  if a2 < 192 then
    let t1 : Bool := 
        if a1 = 1 then
          f_PS_keepsPointers_b28 a2
        else
          if a1 = 5 then
            f_PS_keepsPointers_b28 a2
          else
            true
    t1
  else
    let t2 : Bool := 
        if a1 = 3 then
          false
        else
          true
    t2
