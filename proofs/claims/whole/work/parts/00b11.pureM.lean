def f_MC_control (τ : St) (a1 : Int32) : St :=
  let t1 : Bool := 
      if a1 < 0 then
        true
      else
        if a1 ≤ 65535 then
          false
        else
          true
  let s1 : St := sI τ 37 45 (bI t1)
  let t2 : St := 
      if gI s1 37 45 = 0 then
        let s2 : St := sI s1 38 45 a1
        s2
      else
        s1
  t2
def b_MC_memory_8 (a1 : Int32) (a2 : Int32) (a3 : Int32) (t2 : Int32 × St) : Bool × (Int32 × St) :=
  if 10 ≤ t2.1 then
    (false, (t2.1, t2.2))
  else
    let t3 : Int32 := 
        if 4 ≤ t2.1 then
          if 8 ≤ t2.1 then
            jshr a3 (8 * (t2.1 - 8))
          else
            jshr a2 (8 * (t2.1 - 4))
        else
          jshr a1 (8 * t2.1)
    let s2 : St := sI t2.2 114 (jat t2.1) (t3 &&& 255)
    let v1 : Int32 := t2.1 + 1
    (true, (v1, s2))
def f_MC_memory (τ : St) (a1 : Int32) (a2 : Int32) (a3 : Int32) : St :=
  let s1 : St := sI τ 37 45 0
  let t1 : Int32 × St := lpn ((b_MC_memory_8 a1 a2 a3)) (upf 10 0) (0, s1)
  t1.2
def f_MC_none (a1 : Int32) : Bool :=
  let t1 : Bool := 
      if a1 < 0 then
        true
      else
        if a1 ≤ 7 then
          false
        else
          true
  t1
def f_MC_bit (τ : St) (a1 : Int32) : Int32 :=
  (jshr (gI τ 114 (jat (a1 / 8))) (jrem a1 8)) &&& 1
def b_MC_bits_7 (τ : St) (a1 : Int32) (t2 : Int32 × Int64) : Bool × (Int32 × Int64) :=
  if t2.1 < 0 then
    (false, (t2.1, t2.2))
  else
    let v2 : Int64 := (2 * t2.2) + (Int32.toInt64 (f_MC_bit τ (a1 + t2.1)))
    let v3 : Int32 := t2.1 + (-1)
    (true, (v3, v2))
def f_MC_bits (τ : St) (a1 : Int32) (a2 : Int32) : Int64 :=
  let v1 : Int32 := a2 - 1
  let t1 : Int32 × Int64 := lpn ((b_MC_bits_7 τ a1)) (dnf v1) (v1, 0)
  t1.2
def f_MC_masked (τ : St) (a1 : Int32) : Bool :=
  let t1 : Bool := 
      if jrem ((gI τ 38 45) / a1) 2 = 1 then
        true
      else
        false
  t1
def b_MC_become_34 (a3 : Int64) (t3 : Int32) : Bool × (Int32) :=
  if (jlshr a3 t3) &&& 1 = 0 then
    let v1 : Int32 := t3 + (-1)
    (true, v1)
  else
    (false, t3)
def f_MC_become (τ : St) (a1 : Int32) (a2 : Bool) (a3 : Int64) (a4 : Int32) : St :=
  let t1 : Int32 := 
      if a2 = true then
        32768
      else
        0
  let s1 : St := sI τ 112 (jat a1) t1
  let s2 : St := sJ s1 113 (jat a1) 0
  if a3 = 0 then
    s2
  else
    let t2 : Int32 := lpn ((b_MC_become_34 a3)) (65) 63
    let s3 : St := sI s2 112 (jat a1) ((gI s2 112 (jat a1)) + ((a4 + t2) + 16383))
    let s4 : St := sJ s3 113 (jat a1) (jlshl a3 (63 - t2))
    s4
def f_MC_readReal_b166 (τ : St) (a1 : Int32) (a2 : Int32) (t1 : Bool) (v1 : Int32) (v2 : Int64) (v4 : Int32) : Int32 × St :=
  let t2 : St := 
      if v1 = 0 then
        let s2 : St := f_MC_become τ a1 t1 v2 ((2 - v4) - a2)
        s2
      else
        let s1 : St := f_MC_become τ a1 t1 (v2 + (jlshl 1 (a2 - 1))) (((v1 - v4) - a2) + 1)
        s1
  let t3 : Int32 := 
      if v1 = 0 then
        if v2 = 0 then
          0
        else
          2
      else
        0
  (t3, t2)
def b_MC_readReal_92 (a1 : Int32) (a2 : Int32) (t6 : Int32 × St) : Bool × (Int32 × St) :=
  if (a2 - 1) ≤ t6.1 then
    (false, (t6.1, t6.2))
  else
    let s5 : St := sJ t6.2 113 (jat a1) ((gJ t6.2 113 (jat a1)) + (jlshl (Int32.toInt64 (f_MC_bit t6.2 t6.1)) ((64 - a2) + t6.1)))
    let v5 : Int32 := t6.1 + 1
    (true, (v5, s5))
def f_MC_readReal (τ : St) (a1 : Int32) (a2 : Int32) (a3 : Int32) : Int32 × St :=
  let t1 : Bool := 
      if f_MC_bit τ ((a2 - 1) + a3) = 1 then
        true
      else
        false
  let v1 : Int32 := Int64.toInt32 (f_MC_bits τ (a2 - 1) a3)
  let v2 : Int64 := f_MC_bits τ 0 (a2 - 1)
  let v3 : Int32 := (jshl 1 a3) - 1
  let v4 : Int32 := v3 / 2
  if v1 = v3 then
    let t4 : Int32 := 
        if t1 = true then
          32768
        else
          0
    let s3 : St := sI τ 112 (jat a1) (t4 + 32767)
    let s4 : St := sJ s3 113 (jat a1) 0
    let t5 : Int32 × St := lpn ((b_MC_readReal_92 a1 a2)) (upf (a2 - 1) 0) (0, s4)
    let s6 : St := sJ t5.2 113 (jat a1) ((gJ t5.2 113 (jat a1)) + (-9223372036854775808))
    (0, s6)
  else
    if v1 = 0 then
      if v2 = 0 then
        f_MC_readReal_b166 τ a1 a2 t1 v1 v2 v4
      else
        if f_MC_masked τ 2 = true then
          f_MC_readReal_b166 τ a1 a2 t1 v1 v2 v4
        else
          (2, τ)
    else
      f_MC_readReal_b166 τ a1 a2 t1 v1 v2 v4
def b_MC_read_227 (s1 : St) (t3 : Bool) (t5 : Int32 × Int64) : Bool × (Int32 × Int64) :=
  if t5.1 < 0 then
    (false, (t5.1, t5.2))
  else
    let t6 : Int32 := 
        if t3 = true then
          1 - (f_MC_bit s1 t5.1)
        else
          f_MC_bit s1 t5.1
    let v2 : Int64 := (2 * t5.2) + (Int32.toInt64 t6)
    let v3 : Int32 := t5.1 + (-1)
    (true, (v3, v2))
def b_MC_read_126 (s1 : St) (t9 : Int32 × Int64) : Bool × (Int32 × Int64) :=
  if t9.1 < 0 then
    (false, (t9.1, t9.2))
  else
    let v4 : Int64 := (10 * t9.2) + (f_MC_bits s1 (4 * t9.1) 4)
    let v5 : Int32 := t9.1 + (-1)
    (true, (v5, v4))
def f_MC_read (τ : St) (a1 : Int32) (a2 : Int32) : Int32 × St :=
  let t1 : Int32 := 
      if f_MC_none a2 = true then
        1
      else
        if a1 < 0 then
          2
        else
          if a1 ≤ 6 then
            0
          else
            2
  let s1 : St := sI τ 37 45 t1
  if (gI s1 37 45) ≤ 0 then
    if a1 = 3 then
      let r2 : Int32 × St := f_MC_readReal s1 a2 24 8
      (r2.1, r2.2)
    else
      if a1 = 4 then
        let r1 : Int32 × St := f_MC_readReal s1 a2 53 11
        (r1.1, r1.2)
      else
        if a1 = 6 then
          let s4 : St := sI s1 112 (jat a2) ((gI s1 114 (jat 8)) + (256 * (gI s1 114 (jat 9))))
          let s5 : St := sJ s4 113 (jat a2) (f_MC_bits s4 0 64)
          (0, s5)
        else
          if a1 = 5 then
            let t8 : Int32 × Int64 := lpn ((b_MC_read_126 s1)) (dnf 17) (17, 0)
            let t10 : Bool := 
                if (gI s1 114 (jat 9)) ≤ 127 then
                  false
                else
                  true
            let s3 : St := f_MC_become s1 a2 t10 t8.2 0
            (0, s3)
          else
            let t2 : Int32 := 
                if a1 = 0 then
                  16
                else
                  if a1 = 1 then
                    32
                  else
                    64
            let t3 : Bool := 
                if f_MC_bit s1 (t2 - 1) = 1 then
                  true
                else
                  false
            let v1 : Int32 := t2 - 1
            let t4 : Int32 × Int64 := lpn ((b_MC_read_227 s1 t3)) (dnf v1) (v1, 0)
            let t7 : Int64 := 
                if t3 = true then
                  t4.2 + 1
                else
                  t4.2
            let s2 : St := f_MC_become s1 a2 t3 t7 0
            (0, s2)
  else
    (0, s1)
def f_MC_part (τ : St) (a1 : Int32) (a2 : Int32) : Int32 × St :=
  let t1 : Int32 := 
      if f_MC_none a1 = true then
        1
      else
        if a2 < 0 then
          2
        else
          if a2 ≤ 2 then
            0
          else
            2
  let s1 : St := sI τ 37 45 t1
  if (gI s1 37 45) ≤ 0 then
    let t2 : Int32 := 
        if a2 = 0 then
          gI s1 112 (jat a1)
        else
          if a2 = 1 then
            Int64.toInt32 (jlshr (gJ s1 113 (jat a1)) 32)
          else
            Int64.toInt32 (gJ s1 113 (jat a1))
    (t2, s1)
  else
    (0, s1)
def f_MC_set (τ : St) (a1 : Int32) (a2 : Int32) (a3 : Int32) (a4 : Int32) : St :=
  let t1 : Int32 := 
      if f_MC_none a1 = true then
        1
      else
        if a2 < 0 then
          2
        else
          if a2 ≤ 65535 then
            0
          else
            2
  let s1 : St := sI τ 37 45 t1
  if (gI s1 37 45) ≤ 0 then
    let s2 : St := sI s1 112 (jat a1) a2
    let s3 : St := sJ s2 113 (jat a1) ((jlshl (Int32.toInt64 a3) 32) ||| ((Int32.toInt64 a4) &&& 4294967295))
    s3
  else
    s1
def f_MC_isNumber (τ : St) : Bool :=
  let t1 : Bool := 
      if 32767 ≤ (gI τ 40 45) then
        false
      else
        true
  t1
def f_MC_way (τ : St) : Int32 :=
  jrem ((gI τ 38 45) / 1024) 4
def b_MC_round_39 (a1 : Int32) (v1 : Int32) (t3 : Int32 × Bool × Bool × St) : Bool × (Int32 × Bool × Bool × St) :=
  if 64 ≤ t3.1 then
    (false, (t3.1, t3.2.1, t3.2.2.1, t3.2.2.2))
  else
    let v2 : Int32 := (v1 + t3.1) - a1
    let t4 : Bool × Bool × St := 
        if (jlshr (gJ t3.2.2.2 41 45) t3.1) &&& 1 = 1 then
          let t5 : Bool := 
              if gZ t3.2.2.2 43 45 = true then
                true
              else
                if v2 ≤ 63 then
                  false
                else
                  true
          let s3 : St := sZ t3.2.2.2 43 45 t5
          let t6 : St := 
              if v2 < 0 then
                s3
              else
                if 64 ≤ v2 then
                  s3
                else
                  let s4 : St := sJ s3 42 45 ((gJ s3 42 45) + (jlshl 1 v2))
                  s4
          let t7 : Bool := 
              if t3.2.2.1 = true then
                true
              else
                if v2 = (-1) then
                  true
                else
                  false
          let t8 : Bool := 
              if t3.2.1 = true then
                true
              else
                if (-1) ≤ v2 then
                  false
                else
                  true
          (t8, t7, t6)
        else
          (t3.2.1, t3.2.2.1, t3.2.2.2)
    let v3 : Int32 := t3.1 + 1
    (true, (v3, t4.1, t4.2.1, t4.2.2))
def f_MC_round (τ : St) (a1 : Int32) (a2 : Int32) : St :=
  let t1 : Int32 := 
      if gI τ 40 45 = 0 then
        1
      else
        gI τ 40 45
  let v1 : Int32 := t1 - 16446
  let s1 : St := sJ τ 42 45 0
  let s2 : St := sZ s1 43 45 false
  let t2 : Int32 × Bool × Bool × St := lpn ((b_MC_round_39 a1 v1)) (upf 64 0) (0, false, false, s2)
  let t9 : Bool := 
      if t2.2.2.1 = true then
        true
      else
        if t2.2.1 = true then
          true
        else
          false
  let s5 : St := sZ t2.2.2.2 44 45 t9
  let t10 : Bool := 
      if a2 = 0 then
        if t2.2.2.1 = true then
          if t2.2.1 = true then
            true
          else
            if jlrem (gJ s5 42 45) 2 = 0 then
              false
            else
              true
        else
          false
      else
        if a2 = 4 then
          if t2.2.2.1 = true then
            if t2.2.1 = true then
              true
            else
              false
          else
            false
        else
          if gZ s5 44 45 = true then
            let t11 : Int32 := 
                if gZ s5 39 45 = true then
                  1
                else
                  2
            if a2 = t11 then
              true
            else
              false
          else
            false
  let t12 : Int64 := 
      if t10 = true then
        (gJ s5 42 45) + 1
      else
        gJ s5 42 45
  let s6 : St := sJ s5 42 45 t12
  s6
def f_MC_setBit (τ : St) (a1 : Int32) (a2 : Bool) : St :=
  let t1 : Bool := 
      if f_MC_bit τ a1 = 1 then
        true
      else
        false
  let t2 : St := 
      if t1 = a2 then
        τ
      else
        let t3 : Int32 := 
            if a2 = true then
              jshl 1 (jrem a1 8)
            else
              -(jshl 1 (jrem a1 8))
        let s1 : St := sI τ 114 (jat (a1 / 8)) ((gI τ 114 (jat (a1 / 8))) + t3)
        s1
  t2
def b_MC_setBits_3 (a1 : Int32) (a2 : Int32) (a3 : Int64) (t2 : Int32 × St) : Bool × (Int32 × St) :=
  if a2 ≤ t2.1 then
    (false, (t2.1, t2.2))
  else
    let t3 : Bool := 
        if (jlshr a3 t2.1) &&& 1 = 1 then
          true
        else
          false
    let s1 : St := f_MC_setBit t2.2 (a1 + t2.1) t3
    let v1 : Int32 := t2.1 + 1
    (true, (v1, s1))
def f_MC_setBits (τ : St) (a1 : Int32) (a2 : Int32) (a3 : Int64) : St :=
  let t1 : Int32 × St := lpn ((b_MC_setBits_3 a1 a2 a3)) (upf a2 0) (0, τ)
  t1.2
def f_MC_writeWhole (τ : St) (a1 : Int32) : Int32 × St :=
  let v1 : Bool := f_MC_isNumber τ
  let t1 : Bool × St := 
      if v1 = true then
        let s1 : St := f_MC_round τ 0 (f_MC_way τ)
        let v2 : Int64 := jlshl 1 (a1 - 1)
        let t2 : Bool := 
            if (gJ s1 42 45) < 0 then
              false
            else
              if a1 = 64 then
                true
              else
                if v2 ≤ (gJ s1 42 45) then
                  false
                else
                  true
        let t3 : Bool := 
            if gZ s1 43 45 = true then
              false
            else
              if t2 = true then
                true
              else
                if gZ s1 39 45 = true then
                  if gJ s1 42 45 = v2 then
                    true
                  else
                    false
                else
                  false
        (t3, s1)
      else
        (v1, τ)
  if t1.1 = true then
    let t4 : Int64 := 
        if gZ t1.2 39 45 = true then
          0 - (gJ t1.2 42 45)
        else
          gJ t1.2 42 45
    let s2 : St := f_MC_setBits t1.2 0 a1 t4
    let t5 : Int32 := 
        if gZ s2 44 45 = true then
          32
        else
          0
    (t5, s2)
  else
    let t6 : St := 
        if f_MC_masked t1.2 1 = true then
          let s3 : St := f_MC_setBits t1.2 0 a1 (jlshl 1 (a1 - 1))
          s3
        else
          t1.2
    (1, t6)
def f_MC_isEndless (τ : St) : Bool :=
  let t1 : Bool := 
      if gI τ 40 45 = 32767 then
        if jlshl (gJ τ 41 45) 1 = 0 then
          true
        else
          false
      else
        false
  t1
def f_MC_pack (τ : St) (a1 : Int32) (a2 : Int32) (a3 : Bool) (a4 : Int64) (a5 : Int64) : St :=
  let s1 : St := f_MC_setBits τ 0 (a1 - 1) a5
  let s2 : St := f_MC_setBits s1 (a1 - 1) a2 a4
  let s3 : St := f_MC_setBit s2 ((a1 - 1) + a2) a3
  s3
def b_MC_writeReal_192 (τ : St) (t7 : Int32) : Bool × (Int32) :=
  if (jlshr (gJ τ 41 45) t7) &&& 1 = 0 then
    let v5 : Int32 := t7 + (-1)
    (true, v5)
  else
    (false, t7)
def f_MC_writeReal_b188 (τ : St) (a1 : Int32) (a2 : Int32) (v1 : Int64) (v2 : Int32) : Int32 × St :=
  let t6 : Int32 := lpn ((b_MC_writeReal_192 τ)) (65) 63
  let t8 : Int32 := 
      if gI τ 40 45 = 0 then
        1
      else
        gI τ 40 45
  let v6 : Int32 := (t8 - 16446) + t6
  if (2 - v2) ≤ v6 then
    let s3 : St := f_MC_round τ ((v6 + 1) - a1) (f_MC_way τ)
    let t9 : Bool := 
        if jlshr (gJ s3 42 45) a1 = 1 then
          true
        else
          false
    let t10 : Int32 := 
        if t9 = true then
          v6 + 1
        else
          v6
    if v2 ≤ t10 then
      if f_MC_masked s3 8 = true then
        let t11 : Bool := 
            if f_MC_way s3 = 0 then
              true
            else
              let t12 : Int32 := 
                  if gZ s3 39 45 = true then
                    1
                  else
                    2
              if f_MC_way s3 = t12 then
                true
              else
                false
        let t13 : Int64 := 
            if t11 = true then
              v1
            else
              v1 - 1
        let t14 : Int64 := 
            if t11 = true then
              0
            else
              (-1)
        let s4 : St := f_MC_pack s3 a1 a2 (gZ s3 39 45) t13 t14
        (40, s4)
      else
        (8, s3)
    else
      let t15 : Int64 := 
          if t9 = true then
            0
          else
            gJ s3 42 45
      let s5 : St := f_MC_pack s3 a1 a2 (gZ s3 39 45) (Int32.toInt64 ((t10 + v2) - 1)) t15
      let t16 : Int32 := 
          if gZ s5 44 45 = true then
            32
          else
            0
      (t16, s5)
  else
    if f_MC_masked τ 16 = true then
      let s6 : St := f_MC_round τ ((3 - v2) - a1) (f_MC_way τ)
      let t17 : Bool := 
          if jlshr (gJ s6 42 45) (a1 - 1) = 1 then
            true
          else
            false
      let t18 : Int64 := 
          if t17 = true then
            1
          else
            0
      let s7 : St := f_MC_pack s6 a1 a2 (gZ s6 39 45) t18 (gJ s6 42 45)
      let t19 : Int32 := 
          if gZ s7 44 45 = true then
            48
          else
            0
      (t19, s7)
    else
      (16, τ)
def f_MC_writeReal_b119 (τ : St) (a1 : Int32) (a2 : Int32) (v1 : Int64) : Int32 × St :=
  let t20 : Int64 := 
      if f_MC_isEndless τ = true then
        v1
      else
        0
  let s8 : St := f_MC_pack τ a1 a2 (gZ τ 39 45) t20 0
  (0, s8)
def f_MC_writeReal_b103 (τ : St) (a1 : Int32) (a2 : Int32) (v1 : Int64) (v2 : Int32) : Int32 × St :=
  if f_MC_isEndless τ = true then
    f_MC_writeReal_b119 τ a1 a2 v1
  else
    if gJ τ 41 45 = 0 then
      f_MC_writeReal_b119 τ a1 a2 v1
    else
      if (gI τ 40 45) ≤ 0 then
        f_MC_writeReal_b188 τ a1 a2 v1 v2
      else
        if (jlshr (gJ τ 41 45) 63) &&& 1 = 0 then
          let t5 : St := 
              if f_MC_masked τ 1 = true then
                let s2 : St := f_MC_pack τ a1 a2 true v1 (jlshl 1 (a1 - 2))
                s2
              else
                τ
          (1, t5)
        else
          f_MC_writeReal_b188 τ a1 a2 v1 v2
def b_MC_writeReal_33 (τ : St) (a1 : Int32) (t2 : Int32 × Int64) : Bool × (Int32 × Int64) :=
  if (a1 - 1) ≤ t2.1 then
    (false, (t2.1, t2.2))
  else
    let v3 : Int64 := t2.2 + (jlshl ((jlshr (gJ τ 41 45) ((64 - a1) + t2.1)) &&& 1) t2.1)
    let v4 : Int32 := t2.1 + 1
    (true, (v4, v3))
def f_MC_writeReal (τ : St) (a1 : Int32) (a2 : Int32) : Int32 × St :=
  let v1 : Int64 := (jlshl 1 a2) - 1
  let v2 : Int32 := jshl 1 (a2 - 1)
  if f_MC_isNumber τ = true then
    f_MC_writeReal_b103 τ a1 a2 v1 v2
  else
    if f_MC_isEndless τ = true then
      f_MC_writeReal_b103 τ a1 a2 v1 v2
    else
      let t1 : Int32 × Int64 := lpn ((b_MC_writeReal_33 τ a1)) (upf (a1 - 1) 0) (0, 0)
      let t3 : St := 
          if f_MC_masked τ 1 = true then
            let t4 : Int64 := 
                if t1.2 = 0 then
                  1
                else
                  t1.2
            let s1 : St := f_MC_pack τ a1 a2 (gZ τ 39 45) v1 t4
            s1
          else
            τ
      (1, t3)
def b_MC_writeDecimals_111 (t4 : Int32 × St) : Bool × (Int32 × St) :=
  if 18 ≤ t4.1 then
    (false, (t4.1, t4.2))
  else
    let s2 : St := f_MC_setBits t4.2 (4 * t4.1) 4 (jlrem (gJ t4.2 42 45) 10)
    let s3 : St := sJ s2 42 45 ((gJ s2 42 45) / 10)
    let v2 : Int32 := t4.1 + 1
    (true, (v2, s3))
def b_MC_writeDecimals_64 (t8 : Int32 × St) : Bool × (Int32 × St) :=
  if 10 ≤ t8.1 then
    (false, (t8.1, t8.2))
  else
    let t9 : Int32 := 
        if 7 ≤ t8.1 then
          if t8.1 = 7 then
            192
          else
            255
        else
          0
    let s5 : St := sI t8.2 114 (jat t8.1) t9
    let v3 : Int32 := t8.1 + 1
    (true, (v3, s5))
def f_MC_writeDecimals (τ : St) : Int32 × St :=
  let v1 : Bool := f_MC_isNumber τ
  let t1 : Bool × St := 
      if v1 = true then
        let s1 : St := f_MC_round τ 0 4
        let t2 : Bool := 
            if gZ s1 43 45 = true then
              false
            else
              if (gJ s1 42 45) < 0 then
                false
              else
                if 1000000000000000000 ≤ (gJ s1 42 45) then
                  false
                else
                  true
        (t2, s1)
      else
        (v1, τ)
  if t1.1 = true then
    let t3 : Int32 × St := lpn ((b_MC_writeDecimals_111)) (upf 18 0) (0, t1.2)
    let t5 : Int32 := 
        if gZ t3.2 39 45 = true then
          128
        else
          0
    let s4 : St := sI t3.2 114 (jat 9) t5
    let t6 : Int32 := 
        if gZ s4 44 45 = true then
          32
        else
          0
    (t6, s4)
  else
    if f_MC_masked t1.2 1 = true then
      let t7 : Int32 × St := lpn ((b_MC_writeDecimals_64)) (upf 10 0) (0, t1.2)
      (1, t7.2)
    else
      (1, t1.2)
def f_MC_write (τ : St) (a1 : Int32) (a2 : Int32) : Int32 × St :=
  let t1 : Int32 := 
      if f_MC_none a2 = true then
        1
      else
        if a1 < 0 then
          2
        else
          if a1 ≤ 6 then
            0
          else
            2
  let s1 : St := sI τ 37 45 t1
  if (gI s1 37 45) ≤ 0 then
    let t2 : Bool := 
        if (gI s1 112 (jat a2)) ≤ 32767 then
          false
        else
          true
    let s2 : St := sZ s1 39 45 t2
    let s3 : St := sI s2 40 45 (jrem (gI s2 112 (jat a2)) 32768)
    let s4 : St := sJ s3 41 45 (gJ s3 113 (jat a2))
    if a1 = 0 then
      let r1 : Int32 × St := f_MC_writeWhole s4 16
      (r1.1, r1.2)
    else
      if a1 = 1 then
        let r2 : Int32 × St := f_MC_writeWhole s4 32
        (r2.1, r2.2)
      else
        if a1 = 2 then
          let r3 : Int32 × St := f_MC_writeWhole s4 64
          (r3.1, r3.2)
        else
          if a1 = 3 then
            let r4 : Int32 × St := f_MC_writeReal s4 24 8
            (r4.1, r4.2)
          else
            if a1 = 4 then
              let r5 : Int32 × St := f_MC_writeReal s4 53 11
              (r5.1, r5.2)
            else
              if a1 = 5 then
                let r6 : Int32 × St := f_MC_writeDecimals s4
                (r6.1, r6.2)
              else
                let s5 : St := f_MC_setBits s4 0 64 (gJ s4 41 45)
                let s6 : St := sI s5 114 (jat 8) (jrem (gI s5 112 (jat a2)) 256)
                let s7 : St := sI s6 114 (jat 9) ((gI s6 112 (jat a2)) / 256)
                (0, s7)
  else
    (0, s1)
def f_MC_byteAt (τ : St) (a1 : Int32) : Int32 × St :=
  let t1 : Bool := 
      if a1 < 0 then
        true
      else
        if a1 ≤ 9 then
          false
        else
          true
  let s1 : St := sI τ 37 45 (bI t1)
  let t2 : Int32 := 
      if (gI s1 37 45) ≤ 0 then
        gI s1 114 (jat a1)
      else
        0
  (t2, s1)
def f_MO_control (τ : St) (a1 : Int32) : St :=
  let t1 : Bool := 
      if a1 < 0 then
        true
      else
        if a1 ≤ 65535 then
          false
        else
          true
  let s1 : St := sI τ 15 35 (bI t1)
  let t2 : St := 
      if gI s1 15 35 = 0 then
        let s2 : St := sI s1 16 35 a1
        s2
      else
        s1
  t2
def f_MO_none (a1 : Int32) : Bool :=
  let t1 : Bool := 
      if a1 < 0 then
        true
      else
        if a1 ≤ 7 then
          false
        else
          true
  t1
def f_MO_set (τ : St) (a1 : Int32) (a2 : Int32) (a3 : Int32) (a4 : Int32) : St :=
  let t1 : Int32 := 
      if f_MO_none a1 = true then
        1
      else
        if a2 < 0 then
          2
        else
          if a2 ≤ 65535 then
            0
          else
            2
  let s1 : St := sI τ 15 35 t1
  if (gI s1 15 35) ≤ 0 then
    let s2 : St := sI s1 104 (jat a1) a2
    let s3 : St := sJ s2 105 (jat a1) ((jlshl (Int32.toInt64 a3) 32) ||| ((Int32.toInt64 a4) &&& 4294967295))
    s3
  else
    s1
def f_MO_take (τ : St) (a1 : Int32) (a2 : Int32) : St :=
  let t1 : Bool := 
      if (gI τ 104 (jat a2)) ≤ 32767 then
        false
      else
        true
  let s1 : St := sZ τ 106 (jat a1) t1
  let s2 : St := sI s1 107 (jat a1) (jrem (gI s1 104 (jat a2)) 32768)
  let s3 : St := sJ s2 108 (jat a1) (gJ s2 105 (jat a2))
  s3
def f_MO_isNone (τ : St) (a1 : Int32) : Bool :=
  let t1 : Bool := 
      if gI τ 107 (jat a1) = 32767 then
        if jlshl (gJ τ 108 (jat a1)) 1 = 0 then
          false
        else
          true
      else
        false
  t1
def f_MO_below (a1 : Int64) (a2 : Int64) : Bool :=
  let t1 : Bool := 
      if a1 < 0 then
        false
      else
        true
  let t2 : Bool := 
      if a2 < 0 then
        false
      else
        true
  let t3 : Bool := 
      if t1 = t2 then
        if a2 ≤ a1 then
          false
        else
          true
      else
        if a1 < 0 then
          false
        else
          true
  t3
def f_MO_tell (τ : St) (a1 : Int32) : Bool × St :=
  let s1 : St := sI τ 21 35 ((gI τ 21 35) + a1)
  let t1 : Bool := 
      if (gI s1 16 35) &&& a1 = 0 then
        true
      else
        false
  let s2 : St := sZ s1 22 35 t1
  let t2 : Bool := 
      if gZ s2 22 35 = true then
        false
      else
        true
  (t2, s2)
def f_MO_noNumber (τ : St) (a1 : Int32) (a2 : Int32) (a3 : Int32) : St :=
  let t1 : Bool := 
      if f_MO_isNone τ 0 = true then
        false
      else
        true
  let t2 : Bool := 
      if a1 = 2 then
        if f_MO_isNone τ 0 = true then
          if f_MO_isNone τ 1 = true then
            let t3 : Bool := 
                if gJ τ 108 (jat 0) = gJ τ 108 (jat 1) then
                  if (gI τ 104 (jat a2)) ≤ 32767 then
                    false
                  else
                    if 32767 < (gI τ 104 (jat a3)) then
                      false
                    else
                      true
                else
                  f_MO_below (gJ τ 108 (jat 0)) (gJ τ 108 (jat 1))
            t3
          else
            t1
        else
          t1
      else
        t1
  let r1 : Bool × St := f_MO_tell τ 1
  if r1.1 = true then
    let t4 : Int32 := 
        if t2 = true then
          gI r1.2 104 (jat a3)
        else
          gI r1.2 104 (jat a2)
    let s1 : St := sI r1.2 23 35 t4
    let t5 : Int64 := 
        if t2 = true then
          gJ s1 105 (jat a3)
        else
          gJ s1 105 (jat a2)
    let s2 : St := sJ s1 24 35 t5
    s2
  else
    r1.2
def f_MO_isNothing (τ : St) (a1 : Int32) : Bool :=
  let t1 : Bool := 
      if 32767 ≤ (gI τ 107 (jat a1)) then
        false
      else
        if gJ τ 108 (jat a1) = 0 then
          true
        else
          false
  t1
def f_MO_isUnnormal (τ : St) (a1 : Int32) : Bool :=
  let t1 : Bool := 
      if (gI τ 107 (jat a1)) ≤ 0 then
        false
      else
        if 32767 ≤ (gI τ 107 (jat a1)) then
          false
        else
          if (gJ τ 108 (jat a1)) ≤ 0 then
            false
          else
            true
  t1
def f_MO_isEndless (τ : St) (a1 : Int32) : Bool :=
  let t1 : Bool := 
      if gI τ 107 (jat a1) = 32767 then
        if jlshl (gJ τ 108 (jat a1)) 1 = 0 then
          true
        else
          false
      else
        false
  t1
def f_MO_isWrong_b187 (τ : St) : Bool :=
  if f_MO_isUnnormal τ 1 = true then
    true
  else
    false
def f_MO_isWrong_b171 (τ : St) : Bool :=
  if f_MO_isNothing τ 0 = true then
    if f_MO_isNothing τ 1 = true then
      true
    else
      f_MO_isWrong_b187 τ
  else
    f_MO_isWrong_b187 τ
def f_MO_isWrong_b133 (τ : St) : Bool :=
  if f_MO_isNothing τ 0 = true then
    if f_MO_isEndless τ 1 = true then
      true
    else
      false
  else
    false
def f_MO_isWrong_b40 (τ : St) (t1 : Bool) : Bool :=
  if f_MO_isUnnormal τ 0 = true then
    true
  else
    if f_MO_isEndless τ 0 = true then
      if t1 = true then
        true
      else
        false
    else
      false
def f_MO_isWrong (τ : St) (a1 : Int32) : Bool :=
  let t1 : Bool := 
      if (gI τ 16 35) &&& 4096 = 0 then
        true
      else
        false
  if a1 = 6 then
    let t5 : Bool := 
        if gZ τ 106 (jat 0) = true then
          if f_MO_isNothing τ 0 = true then
            f_MO_isWrong_b40 τ t1
          else
            true
        else
          f_MO_isWrong_b40 τ t1
    t5
  else
    if 3 ≤ a1 then
      if a1 = 3 then
        let t3 : Bool := 
            if f_MO_isEndless τ 0 = true then
              if f_MO_isNothing τ 1 = true then
                true
              else
                f_MO_isWrong_b133 τ
            else
              f_MO_isWrong_b133 τ
        t3
      else
        let t2 : Bool := 
            if f_MO_isEndless τ 0 = true then
              if f_MO_isEndless τ 1 = true then
                true
              else
                f_MO_isWrong_b171 τ
            else
              f_MO_isWrong_b171 τ
        t2
    else
      let t4 : Bool := 
          if f_MO_isEndless τ 0 = true then
            if f_MO_isEndless τ 1 = true then
              if t1 = true then
                true
              else
                if gZ τ 106 (jat 0) = gZ τ 106 (jat 1) then
                  false
                else
                  true
            else
              false
          else
            false
      t4
def f_MO_answer (τ : St) (a1 : Bool) (a2 : Int32) (a3 : Int64) : St :=
  let t1 : Int32 := 
      if a1 = true then
        32768
      else
        0
  let s1 : St := sI τ 23 35 (t1 + a2)
  let s2 : St := sJ s1 24 35 a3
  s2
def f_MO_isDenormal (τ : St) (a1 : Int32) : Bool :=
  let t1 : Bool := 
      if gI τ 107 (jat a1) = 0 then
        if gJ τ 108 (jat a1) = 0 then
          false
        else
          true
      else
        false
  t1
def f_MO_unitOf (τ : St) (a1 : Int32) : Int32 :=
  let t1 : Int32 := 
      if gI τ 107 (jat a1) = 0 then
        1
      else
        gI τ 107 (jat a1)
  t1 - 16446
def b_MO_isLess_49 (τ : St) (v1 : Int32) (v2 : Int32) (t3 : Int32 × Bool) : Bool × (Int32 × Bool) :=
  let t4 : Int32 := 
      if v2 ≤ v1 then
        v1
      else
        v2
  if (t4 + 64) ≤ t3.1 then
    (false, (t3.1, t3.2))
  else
    let t5 : Bool := 
        if t3.1 < v1 then
          false
        else
          if 64 ≤ (t3.1 - v1) then
            false
          else
            if (jlshr (gJ τ 108 (jat 0)) (t3.1 - v1)) &&& 1 = 1 then
              true
            else
              false
    let t6 : Bool := 
        if t3.1 < v2 then
          false
        else
          if 64 ≤ (t3.1 - v2) then
            false
          else
            if (jlshr (gJ τ 108 (jat 1)) (t3.1 - v2)) &&& 1 = 1 then
              true
            else
              false
    let t7 : Bool := 
        if t5 = t6 then
          t3.2
        else
          t6
    let v3 : Int32 := t3.1 + 1
    (true, (v3, t7))
def f_MO_isLess (τ : St) : Bool :=
  let t1 : Int32 := 
      if (f_MO_unitOf τ 1) ≤ (f_MO_unitOf τ 0) then
        f_MO_unitOf τ 1
      else
        f_MO_unitOf τ 0
  let v1 : Int32 := (f_MO_unitOf τ 0) - t1
  let v2 : Int32 := (f_MO_unitOf τ 1) - t1
  let t2 : Int32 × Bool := lpn ((b_MO_isLess_49 τ v1 v2)) (upf ((if v2 ≤ v1 then v1 else v2) + 64) 0) (0, false)
  t2.2
def b_MO_empty_17 (a1 : Int32) (t2 : Int32 × St) : Bool × (Int32 × St) :=
  if a1 ≤ t2.1 then
    (false, (t2.1, t2.2))
  else
    let s4 : St := sZ t2.2 109 (jat t2.1) false
    let v1 : Int32 := t2.1 + 1
    (true, (v1, s4))
def f_MO_empty (τ : St) (a1 : Int32) (a2 : Int32) : St :=
  let s1 : St := sI τ 18 35 a1
  let s2 : St := sI s1 19 35 a2
  let s3 : St := sZ s2 20 35 false
  let t1 : Int32 × St := lpn ((b_MO_empty_17 a1)) (upf a1 0) (0, s3)
  t1.2
def f_MO_join_b140 (t2 : Int32 × Bool × St) (t3 : Bool) : Bool :=
  if t3 = true then
    if t2.2.1 = true then
      true
    else
      false
  else
    false
def f_MO_join_b130 (t2 : Int32 × Bool × St) (v1 : Bool) (t3 : Bool) : Bool :=
  if v1 = true then
    if t2.2.1 = true then
      true
    else
      f_MO_join_b140 t2 t3
  else
    f_MO_join_b140 t2 t3
def f_MO_join_b102 (t2 : Int32 × Bool × St) (t3 : Bool) : Bool :=
  if t3 = true then
    if t2.2.1 = true then
      true
    else
      false
  else
    false
def b_MO_join_6 (a1 : Int64) (a2 : Int32) (a3 : Bool) (t2 : Int32 × Bool × St) : Bool × (Int32 × Bool × St) :=
  if (gI t2.2.2 18 35) ≤ t2.1 then
    (false, (t2.1, t2.2.1, t2.2.2))
  else
    let v1 : Bool := gZ t2.2.2 109 (jat t2.1)
    let t3 : Bool := 
        if 64 ≤ (t2.1 - a2) then
          false
        else
          if (jlshr a1 (t2.1 - a2)) &&& 1 = 1 then
            true
          else
            false
    let t4 : Bool := 
        if v1 = t3 then
          false
        else
          true
    let t5 : Bool := 
        if t4 = t2.2.1 then
          false
        else
          true
    let s1 : St := sZ t2.2.2 109 (jat t2.1) t5
    let t6 : Bool := 
        if a3 = true then
          if v1 = true then
            f_MO_join_b102 t2 t3
          else
            if t3 = true then
              true
            else
              if t2.2.1 = true then
                true
              else
                f_MO_join_b102 t2 t3
        else
          if v1 = true then
            if t3 = true then
              true
            else
              f_MO_join_b130 t2 v1 t3
          else
            f_MO_join_b130 t2 v1 t3
    let v2 : Int32 := t2.1 + 1
    (true, (v2, t6, s1))
def f_MO_join (τ : St) (a1 : Int64) (a2 : Int32) (a3 : Bool) : St :=
  let t1 : Int32 × Bool × St := lpn ((b_MO_join_6 a1 a2 a3)) (upf (gI τ 18 35) a2) (a2, false, τ)
  t1.2.2
def b_MO_highest_7 (τ : St) (t2 : Int32) : Bool × (Int32) :=
  if t2 < 0 then
    (false, t2)
  else
    if gZ τ 109 (jat t2) = true then
      (false, t2)
    else
      let v2 : Int32 := t2 + (-1)
      (true, v2)
def f_MO_highest (τ : St) : Int32 :=
  let v1 : Int32 := (gI τ 18 35) - 1
  let t1 : Int32 := lpn ((b_MO_highest_7 τ)) (dnf v1) v1
  t1
def f_MO_digits (τ : St) : Int32 :=
  let v1 : Int32 := jrem ((gI τ 16 35) / 256) 4
  let t1 : Int32 := 
      if v1 = 0 then
        24
      else
        if v1 = 2 then
          53
        else
          64
  t1
def f_MO_bit (τ : St) (a1 : Int32) : Bool :=
  let t1 : Bool := 
      if a1 < 0 then
        false
      else
        if (gI τ 18 35) ≤ a1 then
          false
        else
          if gZ τ 109 (jat a1) = true then
            true
          else
            false
  t1
def b_MO_rest_7 (τ : St) (a1 : Int32) (t2 : Int32 × Bool) : Bool × (Int32 × Bool) :=
  if a1 ≤ t2.1 then
    (false, (t2.1, t2.2))
  else
    if (gI τ 18 35) ≤ t2.1 then
      (false, (t2.1, t2.2))
    else
      let t3 : Bool := 
          if t2.2 = true then
            true
          else
            if gZ τ 109 (jat t2.1) = true then
              true
            else
              false
      let v2 : Int32 := t2.1 + 1
      (true, (v2, t3))
def f_MO_rest (τ : St) (a1 : Int32) : Bool :=
  let v1 : Bool := gZ τ 20 35
  let t1 : Int32 × Bool := lpn ((b_MO_rest_7 τ a1)) (upf a1 0) (0, v1)
  t1.2
def b_MO_times_14 (τ : St) (v1 : Int32) (t2 : Int32 × Int64) : Bool × (Int32 × Int64) :=
  if t2.1 < 0 then
    (false, (t2.1, t2.2))
  else
    let t3 : Int64 := 
        if f_MO_bit τ (v1 + t2.1) = true then
          1
        else
          0
    let v2 : Int64 := (2 * t2.2) + t3
    let v3 : Int32 := t2.1 + (-1)
    (true, (v3, v2))
def f_MO_times (τ : St) (a1 : Int32) (a2 : Bool) : Int64 × St :=
  let v1 : Int32 := a1 - (gI τ 19 35)
  let t1 : Int32 × Int64 := lpn ((b_MO_times_14 τ v1)) (dnf 63) (63, 0)
  let v4 : Bool := f_MO_bit τ (v1 - 1)
  let v5 : Bool := f_MO_rest τ (v1 - 1)
  let t4 : Bool := 
      if v4 = true then
        true
      else
        if v5 = true then
          true
        else
          false
  let s1 : St := sZ τ 25 35 t4
  let v6 : Int32 := jrem ((gI s1 16 35) / 1024) 4
  let t5 : Bool := 
      if v6 = 0 then
        if v4 = true then
          if v5 = true then
            true
          else
            if f_MO_bit s1 v1 = true then
              true
            else
              false
        else
          false
      else
        if v6 = 1 then
          if a2 = true then
            if gZ s1 25 35 = true then
              true
            else
              false
          else
            false
        else
          if v6 = 2 then
            if a2 = true then
              false
            else
              if gZ s1 25 35 = true then
                true
              else
                false
          else
            false
  let t6 : Int64 := 
      if t5 = true then
        t1.2 + 1
      else
        t1.2
  (t6, s1)
def b_MO_put_32 (a2 : Int64) (t3 : Int32) : Bool × (Int32) :=
  if (jlshr a2 t3) &&& 1 = 0 then
    let v1 : Int32 := t3 + (-1)
    (true, v1)
  else
    (false, t3)
def f_MO_put (τ : St) (a1 : Bool) (a2 : Int64) (a3 : Bool) (a4 : Int32) (a5 : Int32) : St :=
  if a2 = 0 then
    if a3 = true then
      let v3 : Int32 := ((a4 + 64) + 16383) + a5
      let t6 : St := 
          if v3 ≤ 0 then
            let s3 : St := f_MO_answer τ a1 0 (jlshl a2 (a4 + 16445))
            s3
          else
            let s4 : St := f_MO_answer τ a1 v3 (-9223372036854775808)
            s4
      t6
    else
      let s5 : St := f_MO_answer τ a1 0 0
      s5
  else
    let t1 : Int32 := 
        if a3 = true then
          64
        else
          let t2 : Int32 := lpn ((b_MO_put_32 a2)) (65) 63
          t2
    let v2 : Int32 := ((a4 + t1) + 16383) + a5
    let t4 : Int64 := 
        if a3 = true then
          (-9223372036854775808)
        else
          jlshl a2 (63 - t1)
    let t5 : St := 
        if v2 ≤ 0 then
          let s1 : St := f_MO_answer τ a1 0 (jlshl a2 (a4 + 16445))
          s1
        else
          let s2 : St := f_MO_answer τ a1 v2 t4
          s2
    t5
def f_MO_make_b104 (τ : St) (a1 : Bool) (v2 : Int32) (v3 : Int32) (t1 : Bool) : St :=
  let v4 : Int32 := (v2 + 1) - v3
  let r2 : Int64 × St := f_MO_times τ v4 a1
  let t3 : Bool := 
      if v3 = 64 then
        if r2.1 = 0 then
          true
        else
          false
      else
        false
  let t4 : Bool := 
      if t3 = true then
        true
      else
        if 64 ≤ v3 then
          false
        else
          if jlshr r2.1 v3 = 0 then
            false
          else
            true
  let t5 : Int32 := 
      if gZ r2.2 25 35 = true then
        (gI r2.2 21 35) + 32
      else
        gI r2.2 21 35
  let s3 : St := sI r2.2 21 35 t5
  let t6 : St := 
      if t1 = true then
        let s10 : St := sI s3 21 35 ((gI s3 21 35) + 16)
        let s11 : St := f_MO_put s10 a1 r2.1 t3 v4 24576
        s11
      else
        let t7 : Bool := 
            if t4 = true then
              true
            else
              false
        if 16384 ≤ (v2 + (bI t7)) then
          if (gI s3 16 35) &&& 8 = 0 then
            let s7 : St := sI s3 21 35 ((gI s3 21 35) + 8)
            let s8 : St := f_MO_put s7 a1 r2.1 t3 v4 (-24576)
            s8
          else
            let t8 : Int32 := 
                if gZ s3 25 35 = true then
                  0
                else
                  32
            let s4 : St := sI s3 21 35 (((gI s3 21 35) + 8) + t8)
            let v5 : Int32 := jrem ((gI s4 16 35) / 1024) 4
            let t9 : Bool := 
                if v5 = 0 then
                  true
                else
                  let t10 : Int32 := 
                      if a1 = true then
                        1
                      else
                        2
                  if v5 = t10 then
                    true
                  else
                    false
            if t9 = true then
              let s6 : St := f_MO_answer s4 a1 32767 (-9223372036854775808)
              s6
            else
              let s5 : St := f_MO_answer s4 a1 32766 (jlshl (-1) (64 - v3))
              s5
        else
          let s9 : St := f_MO_put s3 a1 r2.1 t3 v4 0
          s9
  t6
def f_MO_make (τ : St) (a1 : Bool) : St :=
  let v1 : Int32 := f_MO_highest τ
  let v2 : Int32 := (gI τ 19 35) + v1
  let v3 : Int32 := f_MO_digits τ
  let t1 : Bool := 
      if (-16382) ≤ v2 then
        false
      else
        true
  if t1 = true then
    if (gI τ 16 35) &&& 16 = 0 then
      f_MO_make_b104 τ a1 v2 v3 t1
    else
      let r1 : Int64 × St := f_MO_times τ ((-16381) - v3) a1
      let t2 : Int32 := 
          if gZ r1.2 25 35 = true then
            ((gI r1.2 21 35) + 16) + 32
          else
            gI r1.2 21 35
      let s1 : St := sI r1.2 21 35 t2
      let s2 : St := f_MO_put s1 a1 r1.1 false ((-16381) - v3) 0
      s2
  else
    f_MO_make_b104 τ a1 v2 v3 t1
def f_MO_sum (τ : St) : St :=
  let t1 : Int32 := 
      if (f_MO_unitOf τ 1) ≤ (f_MO_unitOf τ 0) then
        f_MO_unitOf τ 1
      else
        f_MO_unitOf τ 0
  let v1 : Int32 := ((f_MO_unitOf τ 0) + (f_MO_unitOf τ 1)) - (2 * t1)
  let t2 : Bool := 
      if gZ τ 106 (jat 0) = gZ τ 106 (jat 1) then
        false
      else
        true
  let t3 : Bool := 
      if t2 = true then
        if f_MO_isLess τ = true then
          true
        else
          false
      else
        false
  let s1 : St := f_MO_empty τ (v1 + 66) t1
  let s2 : St := f_MO_join s1 (gJ s1 108 (jat (bI t3))) ((f_MO_unitOf s1 (bI t3)) - t1) false
  let s3 : St := f_MO_join s2 (gJ s2 108 (jat (1 - (bI t3)))) ((f_MO_unitOf s2 (1 - (bI t3))) - t1) t2
  let t4 : Bool := 
      if jrem ((gI s3 16 35) / 1024) 4 = 1 then
        true
      else
        false
  let t5 : St := 
      if (f_MO_highest s3) < 0 then
        let t6 : Bool := 
            if f_MO_isNothing s3 0 = true then
              if f_MO_isNothing s3 1 = true then
                if t2 = true then
                  t4
                else
                  gZ s3 106 (jat 0)
              else
                t4
            else
              t4
        let s4 : St := f_MO_answer s3 t6 0 0
        s4
      else
        let s5 : St := f_MO_make s3 (gZ s3 106 (jat (bI t3)))
        s5
  t5
def b_MO_product_20 (t2 : Int32 × St) : Bool × (Int32 × St) :=
  if 64 ≤ t2.1 then
    (false, (t2.1, t2.2))
  else
    let t3 : St := 
        if (jlshr (gJ t2.2 108 (jat 1)) t2.1) &&& 1 = 1 then
          let s2 : St := f_MO_join t2.2 (gJ t2.2 108 (jat 0)) t2.1 false
          s2
        else
          t2.2
    let v1 : Int32 := t2.1 + 1
    (true, (v1, t3))
def f_MO_product (τ : St) (a1 : Bool) : St :=
  let s1 : St := f_MO_empty τ 130 ((f_MO_unitOf τ 0) + (f_MO_unitOf τ 1))
  let t1 : Int32 × St := lpn ((b_MO_product_20)) (upf 64 0) (0, s1)
  let t4 : St := 
      if (f_MO_highest t1.2) < 0 then
        let s3 : St := f_MO_answer t1.2 a1 0 0
        s3
      else
        let s4 : St := f_MO_make t1.2 a1
        s4
  t4
def b_MO_quotient_45 (t2 : Int32 × Int64 × St) : Bool × (Int32 × Int64 × St) :=
  if t2.1 < 0 then
    (false, (t2.1, t2.2.1, t2.2.2))
  else
    let t3 : Bool := 
        if 0 ≤ t2.2.1 then
          false
        else
          true
    let t4 : Int64 := 
        if t2.1 < 136 then
          0
        else
          (jlshr (gJ t2.2.2 108 (jat 0)) (t2.1 - 136)) &&& 1
    let v1 : Int64 := (2 * t2.2.1) + t4
    let t5 : Bool := 
        if t3 = true then
          true
        else
          if f_MO_below v1 (gJ t2.2.2 108 (jat 1)) = true then
            false
          else
            true
    let t6 : Int64 := 
        if t5 = true then
          v1 - (gJ t2.2.2 108 (jat 1))
        else
          v1
    let s2 : St := sZ t2.2.2 109 (jat t2.1) t5
    let v2 : Int32 := t2.1 + (-1)
    (true, (v2, t6, s2))
def f_MO_quotient (τ : St) (a1 : Bool) : St :=
  if f_MO_isNothing τ 0 = true then
    let s5 : St := f_MO_answer τ a1 0 0
    s5
  else
    let s1 : St := f_MO_empty τ 200 (((f_MO_unitOf τ 0) - (f_MO_unitOf τ 1)) - 136)
    let t1 : Int32 × Int64 × St := lpn ((b_MO_quotient_45)) (dnf 199) (199, 0, s1)
    let t7 : Bool := 
        if t1.2.1 = 0 then
          false
        else
          true
    let s3 : St := sZ t1.2.2 20 35 t7
    let s4 : St := f_MO_make s3 a1
    s4
def b_MO_root_90 (t1 : Bool) (t4 : Int32 × Int64 × Int64 × Int64 × Int64 × St) (t6 : Int32 × Int32) : Bool × (Int32 × Int32) :=
  if t6.1 < 0 then
    (false, (t6.1, t6.2))
  else
    let t7 : Bool := 
        if t1 = true then
          true
        else
          false
    let v3 : Int32 := (((2 * t4.1) + t6.1) - 140) - (bI t7)
    let t8 : Int32 := 
        if v3 < 0 then
          0
        else
          if 64 ≤ v3 then
            0
          else
            Int64.toInt32 ((jlshr (gJ t4.2.2.2.2.2 108 (jat 0)) v3) &&& 1)
    let v4 : Int32 := (2 * t6.2) + t8
    let v5 : Int32 := t6.1 + (-1)
    (true, (v5, v4))
def b_MO_root_79 (t1 : Bool) (t4 : Int32 × Int64 × Int64 × Int64 × Int64 × St) : Bool × (Int32 × Int64 × Int64 × Int64 × Int64 × St) :=
  if t4.1 < 0 then
    (false, (t4.1, t4.2.1, t4.2.2.1, t4.2.2.2.1, t4.2.2.2.2.1, t4.2.2.2.2.2))
  else
    let t5 : Int32 × Int32 := lpn ((b_MO_root_90 t1 t4)) (dnf 1) (1, 0)
    let v6 : Int64 := (jlshl t4.2.2.2.2.1 2) ||| (jlushr t4.2.2.2.1 62)
    let v7 : Int64 := (jlshl t4.2.2.2.1 2) ||| (Int32.toInt64 t5.2)
    let v8 : Int64 := (jlshl t4.2.2.1 2) ||| (jlushr t4.2.1 62)
    let v9 : Int64 := (jlshl t4.2.1 2) ||| 1
    let t9 : Bool := 
        if v6 = v8 then
          if f_MO_below v7 v9 = true then
            false
          else
            true
        else
          if f_MO_below v6 v8 = true then
            false
          else
            true
    let t10 : Int64 × Int64 := 
        if t9 = true then
          let t11 : Int64 := 
              if f_MO_below v7 v9 = true then
                1
              else
                0
          let v10 : Int64 := (v6 - v8) - t11
          let v11 : Int64 := v7 - v9
          (v11, v10)
        else
          (v7, v6)
    let v12 : Int64 := (jlshl t4.2.2.1 1) ||| (jlushr t4.2.1 63)
    let t12 : Int64 := 
        if t9 = true then
          1
        else
          0
    let v13 : Int64 := (jlshl t4.2.1 1) ||| t12
    let s2 : St := sZ t4.2.2.2.2.2 109 (jat t4.1) t9
    let v14 : Int32 := t4.1 + (-1)
    (true, (v14, v13, v12, t10.1, t10.2, s2))
def f_MO_root (τ : St) : St :=
  if f_MO_isNothing τ 0 = true then
    let s5 : St := f_MO_answer τ (gZ τ 106 (jat 0)) 0 0
    s5
  else
    let v1 : Int32 := f_MO_unitOf τ 0
    let t1 : Bool := 
        if jrem v1 2 = 0 then
          false
        else
          true
    let t2 : Int32 := 
        if t1 = true then
          v1 - 1
        else
          v1
    let v2 : Int32 := t2 / 2
    let s1 : St := f_MO_empty τ 104 (v2 - 70)
    let t3 : Int32 × Int64 × Int64 × Int64 × Int64 × St := lpn ((b_MO_root_79 t1)) (dnf 103) (103, 0, 0, 0, 0, s1)
    let t13 : Bool := 
        if t3.2.2.2.2.1 ||| t3.2.2.2.1 = 0 then
          false
        else
          true
    let s3 : St := sZ t3.2.2.2.2.2 20 35 t13
    let s4 : St := f_MO_make s3 false
    s4
def f_MO_work_b268 (a1 : Int32) (x1 : St) (t2 : Bool) (t3 : Bool) : St :=
  if 3 ≤ a1 then
    if a1 = 3 then
      let s4 : St := f_MO_product x1 t2
      s4
    else
      if t3 = true then
        let s3 : St := f_MO_quotient x1 t2
        s3
      else
        let s2 : St := f_MO_root x1
        s2
  else
    let s5 : St := f_MO_sum x1
    s5
def f_MO_work_b254 (x1 : St) (t2 : Bool) : St :=
  let s7 : St := f_MO_answer x1 t2 32767 (-9223372036854775808)
  s7
def f_MO_work_b170 (a1 : Int32) (x1 : St) (t2 : Bool) (t3 : Bool) : St :=
  if a1 = 6 then
    let s9 : St := f_MO_answer x1 false 32767 (-9223372036854775808)
    s9
  else
    if 3 ≤ a1 then
      if t3 = true then
        if f_MO_isEndless x1 1 = true then
          let s6 : St := f_MO_answer x1 t2 0 0
          s6
        else
          f_MO_work_b254 x1 t2
      else
        f_MO_work_b254 x1 t2
    else
      let t5 : Bool := 
          if f_MO_isEndless x1 0 = true then
            gZ x1 106 (jat 0)
          else
            gZ x1 106 (jat 1)
      let s8 : St := f_MO_answer x1 t5 32767 (-9223372036854775808)
      s8
def f_MO_work_b150 (a1 : Int32) (t1 : Bool) (x1 : St) (t2 : Bool) (t3 : Bool) : St :=
  if f_MO_isEndless x1 0 = true then
    f_MO_work_b170 a1 x1 t2 t3
  else
    if t1 = true then
      if f_MO_isEndless x1 1 = true then
        f_MO_work_b170 a1 x1 t2 t3
      else
        f_MO_work_b268 a1 x1 t2 t3
    else
      f_MO_work_b268 a1 x1 t2 t3
def f_MO_work_b69 (a1 : Int32) (t1 : Bool) (x1 : St) : St :=
  let t2 : Bool := 
      if gZ x1 106 (jat 0) = gZ x1 106 (jat 1) then
        false
      else
        true
  let t3 : Bool := 
      if a1 = 4 then
        true
      else
        if a1 = 5 then
          true
        else
          false
  let t4 : St := 
      if t3 = true then
        if f_MO_isNothing x1 1 = true then
          if f_MO_isEndless x1 0 = true then
            f_MO_work_b150 a1 t1 x1 t2 t3
          else
            let r2 : Bool × St := f_MO_tell x1 4
            if r2.1 = true then
              let s1 : St := f_MO_answer r2.2 t2 32767 (-9223372036854775808)
              s1
            else
              r2.2
        else
          f_MO_work_b150 a1 t1 x1 t2 t3
      else
        f_MO_work_b150 a1 t1 x1 t2 t3
  t4
def f_MO_work_b60 (τ : St) (a1 : Int32) (t1 : Bool) : St :=
  let r1 : Bool × St := f_MO_tell τ 2
  if r1.1 = true then
    f_MO_work_b69 a1 t1 r1.2
  else
    r1.2
def f_MO_work (τ : St) (a1 : Int32) : St :=
  let t1 : Bool := 
      if 6 ≤ a1 then
        false
      else
        true
  if f_MO_isWrong τ a1 = true then
    let r3 : Bool × St := f_MO_tell τ 1
    let t6 : St := 
        if r3.1 = true then
          let s10 : St := f_MO_answer r3.2 true 32767 (-4611686018427387904)
          s10
        else
          r3.2
    t6
  else
    if f_MO_isDenormal τ 0 = true then
      f_MO_work_b60 τ a1 t1
    else
      if t1 = true then
        if f_MO_isDenormal τ 1 = true then
          f_MO_work_b60 τ a1 t1
        else
          f_MO_work_b69 a1 t1 τ
      else
        f_MO_work_b69 a1 t1 τ
def f_MO_operate_b191 (s5 : St) : Bool :=
  if gZ s5 106 (jat 1) = true then
    false
  else
    true
def f_MO_operate_b176 (a1 : Int32) (s5 : St) : St :=
  let t7 : Bool := 
      if a1 = 1 then
        f_MO_operate_b191 s5
      else
        if a1 = 2 then
          f_MO_operate_b191 s5
        else
          gZ s5 106 (jat 1)
  let s6 : St := sZ s5 106 (jat 1) t7
  let s7 : St := f_MO_work s6 a1
  s7
def f_MO_operate_b145 (a2 : Int32) (a3 : Int32) (s5 : St) (t5 : Bool) : St :=
  let s8 : St := f_MO_take s5 0 a2
  let s9 : St := f_MO_take s8 1 a3
  let t8 : Int32 := 
      if t5 = true then
        2
      else
        1
  let s10 : St := f_MO_noNumber s9 t8 a2 a3
  s10
def f_MO_operate (τ : St) (a1 : Int32) (a2 : Int32) (a3 : Int32) (a4 : Int32) : Int32 × St :=
  let t1 : Int32 := 
      if f_MO_none a2 = true then
        1
      else
        if f_MO_none a3 = true then
          1
        else
          if f_MO_none a4 = true then
            1
          else
            if a1 < 0 then
              2
            else
              if a1 ≤ 6 then
                0
              else
                2
  let s1 : St := sI τ 15 35 t1
  if (gI s1 15 35) ≤ 0 then
    let t2 : Bool := 
        if a1 = 2 then
          true
        else
          if a1 = 5 then
            true
          else
            false
    let t3 : Int32 := 
        if t2 = true then
          a3
        else
          a2
    let s2 : St := f_MO_take s1 0 t3
    let t4 : Int32 := 
        if t2 = true then
          a2
        else
          a3
    let s3 : St := f_MO_take s2 1 t4
    let s4 : St := sI s3 21 35 0
    let s5 : St := sZ s4 22 35 false
    let t5 : Bool := 
        if 6 ≤ a1 then
          false
        else
          true
    let t6 : St := 
        if f_MO_isNone s5 0 = true then
          f_MO_operate_b145 a2 a3 s5 t5
        else
          if t5 = true then
            if f_MO_isNone s5 1 = true then
              f_MO_operate_b145 a2 a3 s5 t5
            else
              f_MO_operate_b176 a1 s5
          else
            f_MO_operate_b176 a1 s5
    let s11 : St := sI t6 17 35 ((gI t6 17 35) ||| (gI t6 21 35))
    let t9 : St := 
        if gZ s11 22 35 = true then
          s11
        else
          let s12 : St := sI s11 104 (jat a4) (gI s11 23 35)
          let s13 : St := sJ s12 105 (jat a4) (gJ s12 24 35)
          s13
    (gI t9 21 35, t9)
  else
    (0, s1)
def f_MO_part (τ : St) (a1 : Int32) (a2 : Int32) : Int32 × St :=
  let t1 : Int32 := 
      if f_MO_none a1 = true then
        1
      else
        if a2 < 0 then
          2
        else
          if a2 ≤ 2 then
            0
          else
            2
  let s1 : St := sI τ 15 35 t1
  if (gI s1 15 35) ≤ 0 then
    let t2 : Int32 := 
        if a2 = 0 then
          gI s1 104 (jat a1)
        else
          if a2 = 1 then
            Int64.toInt32 (jlshr (gJ s1 105 (jat a1)) 32)
          else
            Int64.toInt32 (gJ s1 105 (jat a1))
    (t2, s1)
  else
    (0, s1)
def f_MS_control (τ : St) (a1 : Int32) : St :=
  let t1 : Bool := 
      if a1 < 0 then
        true
      else
        if a1 ≤ 65535 then
          false
        else
          true
  let s1 : St := sI τ 26 42 (bI t1)
  let t2 : St := 
      if gI s1 26 42 = 0 then
        let s2 : St := sI s1 27 42 a1
        s2
      else
        s1
  t2
def f_MS_none (a1 : Int32) : Bool :=
  let t1 : Bool := 
      if a1 < 0 then
        true
      else
        if a1 ≤ 7 then
          false
        else
          true
  t1
def f_MS_set (τ : St) (a1 : Int32) (a2 : Int32) (a3 : Int32) (a4 : Int32) : St :=
  let t1 : Int32 := 
      if f_MS_none a1 = true then
        1
      else
        if a2 < 0 then
          2
        else
          if a2 ≤ 65535 then
            0
          else
            2
  let s1 : St := sI τ 26 42 t1
  if (gI s1 26 42) ≤ 0 then
    let s2 : St := sI s1 110 (jat a1) a2
    let s3 : St := sJ s2 111 (jat a1) (((Int32.toInt64 a3) * 4294967296) + ((Int32.toInt64 a4) &&& 4294967295))
    s3
  else
    s1
def f_MS_part (τ : St) (a1 : Int32) (a2 : Int32) : Int32 × St :=
  let t1 : Int32 := 
      if f_MS_none a1 = true then
        1
      else
        if a2 < 0 then
          2
        else
          if a2 ≤ 2 then
            0
          else
            2
  let s1 : St := sI τ 26 42 t1
  if (gI s1 26 42) ≤ 0 then
    let t2 : Int32 := 
        if a2 = 0 then
          gI s1 110 (jat a1)
        else
          if a2 = 1 then
            Int64.toInt32 (jlshr (gJ s1 111 (jat a1)) 32)
          else
            Int64.toInt32 (gJ s1 111 (jat a1))
    (t2, s1)
  else
    (0, s1)
def f_MS_begin (τ : St) : St :=
  let s1 : St := sI τ 28 42 0
  let s2 : St := sZ s1 29 42 false
  s2
def f_MS_kind (τ : St) (a1 : Int32) : Int32 :=
  let v1 : Int32 := jrem (gI τ 110 (jat a1)) 32768
  let t1 : Bool := 
      if gJ τ 111 (jat a1) = 0 then
        true
      else
        if gJ τ 111 (jat a1) = (-9223372036854775808) then
          true
        else
          false
  if v1 = 32767 then
    let t4 : Int32 := 
        if t1 = true then
          4
        else
          5
    t4
  else
    if v1 = 0 then
      let t3 : Bool := 
          if gJ τ 111 (jat a1) = 0 then
            false
          else
            true
      bI t3
    else
      let t2 : Int32 := 
          if 0 ≤ (gJ τ 111 (jat a1)) then
            2
          else
            3
      t2
def f_MS_masked (τ : St) (a1 : Int32) : Bool :=
  let t1 : Bool := 
      if jrem ((gI τ 27 42) / a1) 2 = 1 then
        true
      else
        false
  t1
def f_MS_lessSize (a1 : Int64) (a2 : Int64) : Bool :=
  let t1 : Bool := 
      if (a2 + (-9223372036854775808)) ≤ (a1 + (-9223372036854775808)) then
        false
      else
        true
  t1
def f_MS_minus (τ : St) (a1 : Int32) : Bool :=
  let t1 : Bool := 
      if (gI τ 110 (jat a1)) ≤ 32767 then
        false
      else
        true
  t1
def f_MS_tell (τ : St) (a1 : Int32) : Bool × St :=
  let t1 : Int32 := 
      if jrem ((gI τ 28 42) / a1) 2 = 1 then
        gI τ 28 42
      else
        (gI τ 28 42) + a1
  let s1 : St := sI τ 28 42 t1
  (f_MS_masked s1 a1, s1)
def f_MS_answer (τ : St) (a1 : Int32) (a2 : Int64) : St :=
  let s1 : St := sI τ 32 42 a1
  let s2 : St := sJ s1 33 42 a2
  let s3 : St := sZ s2 29 42 true
  s3
def f_MS_goesOn_n (τ : St) (a1 : Int32) (a3 : Bool) : Bool × St :=
  let t1 : Bool := 
      if f_MS_kind τ a1 = 5 then
        true
      else
        false
  if t1 = true then
    let r1 : Bool × St := f_MS_tell τ 1
    let t2 : St := 
        if r1.1 = true then
          let s1 : St := f_MS_answer r1.2 (gI r1.2 110 (jat a1)) (gJ r1.2 111 (jat a1))
          s1
        else
          r1.2
    (false, t2)
  else
    if a3 = true then
      let t3 : Bool := 
          if f_MS_kind τ a1 = 1 then
            true
          else
            false
      let t4 : Bool × St := 
          if t3 = true then
            let r2 : Bool × St := f_MS_tell τ 2
            if r2.1 = true then
              (true, r2.2)
            else
              (false, r2.2)
          else
            (true, τ)
      (t4.1, t4.2)
    else
      let r3 : Bool × St := f_MS_tell τ 1
      let t5 : St := 
          if r3.1 = true then
            let s2 : St := f_MS_answer r3.2 65535 (-4611686018427387904)
            s2
          else
            r3.2
      (false, t5)
def f_MS_goesOn_b46 (τ : St) (a1 : Int32) (a2 : Int32) (t1 : Bool) (t2 : Bool) : Bool × St :=
  let t6 : Bool := 
      if t1 = true then
        false
      else
        true
  let t7 : Bool := 
      if t1 = true then
        if t2 = true then
          let t8 : Bool := 
              if f_MS_lessSize (gJ τ 111 (jat a1)) (gJ τ 111 (jat a2)) = true then
                true
              else
                if gJ τ 111 (jat a1) = gJ τ 111 (jat a2) then
                  if f_MS_minus τ a1 = true then
                    if f_MS_minus τ a2 = true then
                      false
                    else
                      true
                  else
                    false
                else
                  false
          t8
        else
          t6
      else
        t6
  let r3 : Bool × St := f_MS_tell τ 1
  let t9 : St := 
      if r3.1 = true then
        let t10 : Int32 := 
            if t7 = true then
              a2
            else
              a1
        let t11 : Int32 := 
            if t7 = true then
              a2
            else
              a1
        let s2 : St := f_MS_answer r3.2 (gI r3.2 110 (jat t10)) (gJ r3.2 111 (jat t11))
        s2
      else
        r3.2
  (false, t9)
def f_MS_goesOn (τ : St) (a1 : Int32) (a2 : Int32) (a3 : Bool) : Bool × St :=
  let t1 : Bool := 
      if f_MS_kind τ a1 = 5 then
        true
      else
        false
  let t2 : Bool := 
      if a2 < 0 then
        false
      else
        if f_MS_kind τ a2 = 5 then
          true
        else
          false
  if t1 = true then
    f_MS_goesOn_b46 τ a1 a2 t1 t2
  else
    if t2 = true then
      f_MS_goesOn_b46 τ a1 a2 t1 t2
    else
      if a3 = true then
        let t3 : Bool := 
            if f_MS_kind τ a1 = 1 then
              true
            else
              if a2 < 0 then
                false
              else
                if f_MS_kind τ a2 = 1 then
                  true
                else
                  false
        let t4 : Bool × St := 
            if t3 = true then
              let r1 : Bool × St := f_MS_tell τ 2
              if r1.1 = true then
                (true, r1.2)
              else
                (false, r1.2)
            else
              (true, τ)
        (t4.1, t4.2)
      else
        let r2 : Bool × St := f_MS_tell τ 1
        let t5 : St := 
            if r2.1 = true then
              let s1 : St := f_MS_answer r2.2 65535 (-4611686018427387904)
              s1
            else
              r2.2
        (false, t5)
def f_MS_nothing (τ : St) (a1 : Int32) : Bool :=
  let t1 : Bool := 
      if 3 ≤ (f_MS_kind τ a1) then
        false
      else
        if gJ τ 111 (jat a1) = 0 then
          true
        else
          false
  t1
def f_MS_unit (τ : St) (a1 : Int32) : Int32 :=
  let t1 : Int32 := 
      if jrem (gI τ 110 (jat a1)) 32768 = 0 then
        1
      else
        jrem (gI τ 110 (jat a1)) 32768
  t1 - 16446
def b_MS_apart_22 (t2 : St) : Bool × (St) :=
  if (gJ t2 34 42) ≤ 0 then
    (false, t2)
  else
    let s3 : St := sJ t2 34 42 (2 * (gJ t2 34 42))
    let s4 : St := sI s3 35 42 ((gI s3 35 42) - 1)
    (true, s4)
def f_MS_apart (τ : St) (a1 : Int32) : St :=
  let s1 : St := sJ τ 34 42 (gJ τ 111 (jat a1))
  let s2 : St := sI s1 35 42 ((f_MS_unit s1 a1) + 63)
  let t1 : St := lpn ((b_MS_apart_22)) (dblf (gJ s2 34 42)) s2
  t1
def f_MS_order_z_b116 (τ : St) (t1 : Int32) : Int32 × St :=
  if t1 = 0 then
    (0, τ)
  else
    let t3 : Int32 := 
        if 0 ≤ t1 then
          1
        else
          (-1)
    (t3, τ)
def f_MS_order_z (τ : St) (a1 : Int32) : Int32 × St :=
  let t1 : Int32 := 
      if f_MS_nothing τ a1 = true then
        0
      else
        if f_MS_minus τ a1 = true then
          (-1)
        else
          1
  let t2 : Bool := 
      if f_MS_kind τ a1 = 4 then
        true
      else
        false
  if t2 = true then
    f_MS_order_z_b116 τ t1
  else
    f_MS_order_z_b116 τ t1
def f_MS_order_f_b163 (τ : St) (t1 : Int32) (t3 : Bool) : Int32 × St :=
  let t7 : Int32 := 
      if t3 = true then
        t1
      else
        -t1
  (t7, τ)
def f_MS_order_f_b153 (τ : St) (a1 : Int32) (a3 : Int32) (t1 : Int32) (t3 : Bool) (t4 : Bool) : Int32 × St :=
  if t3 = true then
    f_MS_order_f_b163 τ t1 t3
  else
    if t4 = true then
      f_MS_order_f_b163 τ t1 t3
    else
      let s1 : St := f_MS_apart τ a1
      let v1 : Int64 := gJ s1 34 42
      let v2 : Int32 := gI s1 35 42
      let s2 : St := f_MS_apart s1 a3
      if v2 = gI s2 35 42 then
        let t5 : Int32 := 
            if v1 = gJ s2 34 42 then
              0
            else
              if f_MS_lessSize v1 (gJ s2 34 42) = true then
                -t1
              else
                t1
        (t5, s2)
      else
        let t6 : Int32 := 
            if (gI s2 35 42) ≤ v2 then
              t1
            else
              -t1
        (t6, s2)
def f_MS_order_f_b116 (τ : St) (a1 : Int32) (a3 : Int32) (t1 : Int32) (t2 : Int32) (t3 : Bool) (t4 : Bool) : Int32 × St :=
  if t1 = t2 then
    if t1 = 0 then
      (0, τ)
    else
      if t3 = true then
        if t4 = true then
          (0, τ)
        else
          f_MS_order_f_b153 τ a1 a3 t1 t3 t4
      else
        f_MS_order_f_b153 τ a1 a3 t1 t3 t4
  else
    let t8 : Int32 := 
        if t2 ≤ t1 then
          1
        else
          (-1)
    (t8, τ)
def f_MS_order_f (τ : St) (a1 : Int32) (a3 : Int32) : Int32 × St :=
  let t1 : Int32 := 
      if f_MS_nothing τ a1 = true then
        0
      else
        if f_MS_minus τ a1 = true then
          (-1)
        else
          1
  let t2 : Int32 := 
      if f_MS_nothing τ a3 = true then
        0
      else
        if f_MS_minus τ a3 = true then
          (-1)
        else
          1
  let t3 : Bool := 
      if f_MS_kind τ a1 = 4 then
        true
      else
        false
  let t4 : Bool := 
      if f_MS_kind τ a3 = 4 then
        true
      else
        false
  if t3 = true then
    if t4 = true then
      if f_MS_masked τ 4096 = true then
        f_MS_order_f_b116 τ a1 a3 t1 t2 t3 t4
      else
        (0, τ)
    else
      f_MS_order_f_b116 τ a1 a3 t1 t2 t3 t4
  else
    f_MS_order_f_b116 τ a1 a3 t1 t2 t3 t4
def f_MS_compared_z (τ : St) (a1 : Int32) : Int32 × St :=
  let s1 : St := f_MS_begin τ
  let t1 : Bool := 
      if f_MS_kind s1 a1 = 4 then
        true
      else
        false
  let t2 : Bool := 
      if f_MS_masked s1 4096 = true then
        true
      else
        if t1 = false then
          true
        else
          false
  let r1 : Bool × St := f_MS_goesOn_n s1 a1 t2
  if r1.1 = true then
    let s2 : St := sZ r1.2 29 42 true
    let r2 : Int32 × St := f_MS_order_z s2 a1
    (r2.1, r2.2)
  else
    let t3 : Int32 := 
        if gZ r1.2 29 42 = true then
          2
        else
          3
    (t3, r1.2)
def f_MS_compared_f (τ : St) (a1 : Int32) (a3 : Int32) : Int32 × St :=
  let s1 : St := f_MS_begin τ
  let t1 : Bool := 
      if f_MS_kind s1 a1 = 4 then
        true
      else
        false
  let t2 : Bool := 
      if f_MS_kind s1 a3 = 4 then
        true
      else
        false
  let t3 : Bool := 
      if f_MS_masked s1 4096 = true then
        true
      else
        if t1 = t2 then
          true
        else
          false
  let r1 : Bool × St := f_MS_goesOn s1 a1 a3 t3
  if r1.1 = true then
    let s2 : St := sZ r1.2 29 42 true
    let r2 : Int32 × St := f_MS_order_f s2 a1 a3
    (r2.1, r2.2)
  else
    let t4 : Int32 := 
        if gZ r1.2 29 42 = true then
          2
        else
          3
    (t4, r1.2)
def f_MS_test (τ : St) (a1 : Int32) : Int32 × St :=
  let t1 : Bool := 
      if f_MS_none a1 = true then
        true
      else
        false
  let s1 : St := sI τ 26 42 (bI t1)
  let t2 : Int32 × St := 
      if (gI s1 26 42) ≤ 0 then
        let r1 : Int32 × St := f_MS_compared_z s1 a1
        (r1.1, r1.2)
      else
        (0, s1)
  (t2.1, t2.2)
def f_MS_compare (τ : St) (a1 : Int32) (a2 : Int32) : Int32 × St :=
  let t1 : Bool := 
      if f_MS_none a1 = true then
        true
      else
        if f_MS_none a2 = true then
          true
        else
          false
  let s1 : St := sI τ 26 42 (bI t1)
  let t2 : Int32 × St := 
      if (gI s1 26 42) ≤ 0 then
        let r1 : Int32 × St := f_MS_compared_f s1 a1 a2
        (r1.1, r1.2)
      else
        (0, s1)
  (t2.1, t2.2)
def f_MS_told (τ : St) (a1 : Int32) : Int32 × St :=
  let t1 : Bool := 
      if a1 < 0 then
        true
      else
        if a1 ≤ 3 then
          false
        else
          true
  let s1 : St := sI τ 26 42 (bI t1)
  if (gI s1 26 42) ≤ 0 then
    let t2 : Int32 := 
        if a1 = 0 then
          gI s1 28 42
        else
          if a1 = 1 then
            if gZ s1 29 42 = true then
              1
            else
              0
          else
            if a1 = 2 then
              gI s1 30 42
            else
              if gZ s1 31 42 = true then
                1
              else
                0
    (t2, s1)
  else
    (0, s1)
def f_MS_examine (τ : St) (a1 : Int32) : Int32 × St :=
  let t1 : Bool := 
      if f_MS_none a1 = true then
        true
      else
        false
  let s1 : St := sI τ 26 42 (bI t1)
  if (gI s1 26 42) ≤ 0 then
    let v1 : Int32 := f_MS_kind s1 a1
    let t2 : Int32 := 
        if v1 = 0 then
          8
        else
          if v1 = 1 then
            12
          else
            if v1 = 2 then
              0
            else
              if v1 = 3 then
                4
              else
                if v1 = 4 then
                  5
                else
                  1
    let t3 : Int32 := 
        if f_MS_minus s1 a1 = true then
          t2 + 2
        else
          t2
    (t3, s1)
  else
    (0, s1)
def f_MS_constant (τ : St) (a1 : Int32) (a2 : Int32) : St :=
  let t1 : Int32 := 
      if f_MS_none a2 = true then
        1
      else
        if a1 < 0 then
          2
        else
          if a1 ≤ 6 then
            0
          else
            2
  let s1 : St := sI τ 26 42 t1
  if (gI s1 26 42) ≤ 0 then
    let t2 : Int32 := 
        if a1 = 0 then
          0
        else
          let t3 : Int32 := 
              if a1 = 2 then
                1
              else
                if a1 = 4 then
                  1
                else
                  if a1 = 5 then
                    (-2)
                  else
                    if a1 = 6 then
                      (-1)
                    else
                      0
          16383 + t3
    let s2 : St := sI s1 110 (jat a2) t2
    let t4 : Int64 := 
        if a1 = 0 then
          0
        else
          if a1 = 1 then
            (-9223372036854775808)
          else
            if a1 = 2 then
              (-3127054724296373506)
            else
              if a1 = 3 then
                (-5140230975865229124)
              else
                if a1 = 4 then
                  (-3958705157555305931)
                else
                  if a1 = 5 then
                    (-7340697496662837351)
                  else
                    (-5660435428506895956)
    let s3 : St := sJ s2 111 (jat a2) t4
    s3
  else
    s1
def f_MS_way (τ : St) : Int32 :=
  jrem ((gI τ 27 42) / 1024) 4
def b_MS_rounded_12 (a2 : Int32) (t2 : Int32 × Bool × Bool × Int64) : Bool × (Int32 × Bool × Bool × Int64) :=
  if a2 ≤ t2.1 then
    (false, (t2.1, t2.2.1, t2.2.2.1, t2.2.2.2))
  else
    if 70 ≤ t2.1 then
      (false, (t2.1, t2.2.1, t2.2.2.1, t2.2.2.2))
    else
      let t3 : Bool := 
          if t2.2.1 = true then
            true
          else
            if t2.2.2.1 = true then
              true
            else
              false
      let t4 : Bool := 
          if jlrem t2.2.2.2 2 = 0 then
            false
          else
            true
      let v1 : Int64 := (jlshr t2.2.2.2 1) &&& 9223372036854775807
      let v2 : Int32 := t2.1 + 1
      (true, (v2, t3, t4, v1))
def f_MS_rounded (τ : St) (a1 : Int64) (a2 : Int32) (a3 : Bool) : Int64 × St :=
  let t1 : Int32 × Bool × Bool × Int64 := lpn ((b_MS_rounded_12 a2)) (upf a2 0) (0, false, false, a1)
  let t5 : Bool := 
      if t1.2.1 = true then
        true
      else
        if a2 ≤ 70 then
          false
        else
          if t1.2.2.1 = true then
            true
          else
            false
  let t6 : Bool := 
      if t1.2.2.1 = true then
        if 70 < a2 then
          false
        else
          true
      else
        false
  let t7 : Bool := 
      if t6 = true then
        true
      else
        if t5 = true then
          true
        else
          false
  let s1 : St := sZ τ 36 42 t7
  let t8 : Bool := 
      if f_MS_way s1 = 0 then
        if t6 = true then
          if t5 = true then
            true
          else
            if jlrem t1.2.2.2 2 = 1 then
              true
            else
              false
        else
          false
      else
        if gZ s1 36 42 = true then
          let t9 : Int32 := 
              if a3 = true then
                1
              else
                2
          if f_MS_way s1 = t9 then
            true
          else
            false
        else
          false
  let t10 : Int64 := 
      if t8 = true then
        t1.2.2.2 + 1
      else
        t1.2.2.2
  (t10, s1)
def f_MS_make_b173 (τ : St) (a1 : Bool) (t1 : Int32) (t2 : Int32 × Int64) : St :=
  if (-16382) ≤ t2.1 then
    if 16384 ≤ t2.1 then
      if f_MS_masked τ 8 = true then
        let r4 : Bool × St := f_MS_tell τ 8
        let r5 : Bool × St := f_MS_tell r4.2 32
        let t10 : Bool := 
            if f_MS_way r5.2 = 0 then
              true
            else
              let t11 : Int32 := 
                  if a1 = true then
                    1
                  else
                    2
              if f_MS_way r5.2 = t11 then
                true
              else
                false
        let t12 : Int32 := 
            if t10 = true then
              32767
            else
              32766
        let t13 : Int64 := 
            if t10 = true then
              (-9223372036854775808)
            else
              (-1)
        let s3 : St := f_MS_answer r5.2 (t1 + t12) t13
        s3
      else
        let r6 : Bool × St := f_MS_tell τ 8
        let s4 : St := f_MS_answer r6.2 (((t1 + t2.1) + 16383) - 24576) t2.2
        s4
    else
      let s5 : St := f_MS_answer τ ((t1 + t2.1) + 16383) t2.2
      s5
  else
    let r7 : Bool × St := f_MS_tell τ 16
    let s6 : St := f_MS_answer r7.2 (((t1 + t2.1) + 16383) + 24576) t2.2
    s6
def b_MS_make_109 (t7 : Int32 × Int64) : Bool × (Int32 × Int64) :=
  if 0 ≤ t7.1 then
    (false, (t7.1, t7.2))
  else
    let v5 : Int64 := 2 * t7.2
    let v6 : Int32 := t7.1 + 1
    (true, (v6, v5))
def b_MS_make_36 (t3 : Int32 × Int64) : Bool × (Int32 × Int64) :=
  if t3.2 ≤ 0 then
    (false, (t3.1, t3.2))
  else
    let v2 : Int64 := 2 * t3.2
    let v3 : Int32 := t3.1 + (-1)
    (true, (v3, v2))
def f_MS_make (τ : St) (a1 : Bool) (a2 : Int64) (a3 : Int32) : St :=
  let t1 : Int32 := 
      if a1 = true then
        32768
      else
        0
  if a2 = 0 then
    let s7 : St := f_MS_answer τ t1 0
    s7
  else
    let v1 : Int32 := a3 + 63
    let t2 : Int32 × Int64 := lpn ((b_MS_make_36)) (dblf a2) (v1, a2)
    let t4 : St := 
        if (-16382) ≤ t2.1 then
          f_MS_make_b173 τ a1 t1 t2
        else
          if f_MS_masked τ 16 = true then
            let v4 : Int32 := (-16445) - a3
            let s1 : St := sZ τ 36 42 false
            let t5 : Int64 × St := 
                if v4 ≤ 0 then
                  (a2, s1)
                else
                  let r1 : Int64 × St := f_MS_rounded s1 a2 v4 a1
                  (r1.1, r1.2)
            let t6 : Int32 × Int64 := lpn ((b_MS_make_109)) (upf 0 v4) (v4, t5.1)
            let t8 : St := 
                if gZ t5.2 36 42 = true then
                  let r2 : Bool × St := f_MS_tell t5.2 16
                  let r3 : Bool × St := f_MS_tell r2.2 32
                  r3.2
                else
                  t5.2
            let t9 : Bool := 
                if 0 ≤ t6.2 then
                  false
                else
                  true
            let s2 : St := f_MS_answer t8 (t1 + (bI t9)) t6.2
            s2
          else
            f_MS_make_b173 τ a1 t1 t2
    t4
def f_MS_keep (τ : St) (a1 : Int32) : St :=
  if gZ τ 29 42 = true then
    let s1 : St := sI τ 110 (jat a1) (gI τ 32 42)
    let s2 : St := sJ s1 111 (jat a1) (gJ s1 33 42)
    s2
  else
    τ
def f_MS_extract (τ : St) (a1 : Int32) (a2 : Int32) (a3 : Int32) : Int32 × St :=
  let t1 : Int32 := 
      if f_MS_none a1 = true then
        1
      else
        if f_MS_none a2 = true then
          1
        else
          if f_MS_none a3 = true then
            1
          else
            if a2 = a3 then
              2
            else
              0
  let s1 : St := sI τ 26 42 t1
  if (gI s1 26 42) ≤ 0 then
    let s2 : St := f_MS_begin s1
    let r1 : Bool × St := f_MS_goesOn_n s2 a1 true
    let t2 : Int64 × Int32 × St := 
        if r1.1 = true then
          if f_MS_kind r1.2 a1 = 4 then
            let s7 : St := f_MS_answer r1.2 (gI r1.2 110 (jat a1)) (gJ r1.2 111 (jat a1))
            ((-9223372036854775808), 32767, s7)
          else
            if f_MS_nothing r1.2 a1 = true then
              let r2 : Bool × St := f_MS_tell r1.2 4
              if r2.1 = true then
                let t5 : Int32 := 
                    if f_MS_minus r2.2 a1 = true then
                      32768
                    else
                      0
                let s6 : St := f_MS_answer r2.2 t5 0
                ((-9223372036854775808), 65535, s6)
              else
                ((-9223372036854775808), 65535, r2.2)
            else
              let s3 : St := f_MS_apart r1.2 a1
              let v3 : Int32 := gI s3 35 42
              let v4 : Int64 := gJ s3 34 42
              let t3 : Bool := 
                  if 0 ≤ v3 then
                    false
                  else
                    true
              let t4 : Int64 := 
                  if 0 ≤ v3 then
                    Int32.toInt64 v3
                  else
                    Int32.toInt64 (-v3)
              let s4 : St := f_MS_make s3 t3 t4 0
              let v5 : Int32 := gI s4 32 42
              let v6 : Int64 := gJ s4 33 42
              let s5 : St := f_MS_make s4 (f_MS_minus s4 a1) v4 (-63)
              (v6, v5, s5)
        else
          let v1 : Int32 := gI r1.2 32 42
          let v2 : Int64 := gJ r1.2 33 42
          (v2, v1, r1.2)
    let t6 : St := 
        if gZ t2.2.2 29 42 = true then
          let s8 : St := f_MS_keep t2.2.2 a3
          let s9 : St := sI s8 110 (jat a2) t2.2.1
          let s10 : St := sJ s9 111 (jat a2) t2.1
          s10
        else
          t2.2.2
    (gI t6 28 42, t6)
  else
    (0, s1)
def b_MS_divide_121 (t1 : Int64 × Int32 × St) (t3 : Int32) (t5 : Int32 × Int64 × St) : Bool × (Int32 × Int64 × St) :=
  if (64 + t3) ≤ t5.1 then
    (false, (t5.1, t5.2.1, t5.2.2))
  else
    let t6 : Bool := 
        if 0 ≤ t5.2.1 then
          false
        else
          true
    let t7 : Int64 := 
        if 64 ≤ t5.1 then
          0
        else
          if 0 ≤ (jlshl t1.1 t5.1) then
            0
          else
            1
    let v4 : Int64 := (2 * t5.2.1) + t7
    let t8 : Bool := 
        if t6 = true then
          true
        else
          if f_MS_lessSize v4 (gJ t5.2.2 34 42) = true then
            false
          else
            true
    let t9 : Int64 := 
        if t8 = true then
          v4 - (gJ t5.2.2 34 42)
        else
          v4
    let t10 : Bool := 
        if t8 = true then
          true
        else
          false
    let s6 : St := sI t5.2.2 30 42 (jrem ((2 * (gI t5.2.2 30 42)) + (bI t10)) 8)
    let v5 : Int32 := t5.1 + 1
    (true, (v5, t9, s6))
def f_MS_divide (τ : St) (a1 : Int32) (a2 : Int32) : St :=
  let s1 : St := sI τ 30 42 0
  let s2 : St := sZ s1 31 42 false
  let t1 : Int64 × Int32 × St := 
      if f_MS_kind s2 a2 = 4 then
        (0, (-1), s2)
      else
        if f_MS_nothing s2 a1 = true then
          (0, (-1), s2)
        else
          let s3 : St := f_MS_apart s2 a1
          let v1 : Int64 := gJ s3 34 42
          let v2 : Int32 := gI s3 35 42
          let s4 : St := f_MS_apart s3 a2
          let v3 : Int32 := v2 - (gI s4 35 42)
          (v1, v3, s4)
  if 0 ≤ t1.2.1 then
    let t2 : Bool := 
        if t1.2.1 ≤ 63 then
          false
        else
          true
    let s5 : St := sZ t1.2.2 31 42 t2
    let t3 : Int32 := 
        if gZ s5 31 42 = true then
          63
        else
          t1.2.1
    let t4 : Int32 × Int64 × St := lpn ((b_MS_divide_121 t1 t3)) (upf (64 + t3) 0) (0, 0, s5)
    let s7 : St := f_MS_make t4.2.2 (f_MS_minus t4.2.2 a1) t4.2.1 ((((gI t4.2.2 35 42) + t1.2.1) - t3) - 63)
    s7
  else
    let s8 : St := f_MS_make t1.2.2 (f_MS_minus t1.2.2 a1) (gJ t1.2.2 111 (jat a1)) (f_MS_unit t1.2.2 a1)
    s8
def f_MS_remainder (τ : St) (a1 : Int32) (a2 : Int32) (a3 : Int32) : Int32 × St :=
  let t1 : Bool := 
      if f_MS_none a1 = true then
        true
      else
        if f_MS_none a2 = true then
          true
        else
          if f_MS_none a3 = true then
            true
          else
            false
  let s1 : St := sI τ 26 42 (bI t1)
  if (gI s1 26 42) ≤ 0 then
    let s2 : St := f_MS_begin s1
    let t2 : Bool := 
        if f_MS_kind s2 a1 = 4 then
          false
        else
          if f_MS_nothing s2 a2 = true then
            false
          else
            if f_MS_kind s2 a2 = 2 then
              false
            else
              true
    let r1 : Bool × St := f_MS_goesOn s2 a1 a2 t2
    let t3 : St := 
        if r1.1 = true then
          let s3 : St := f_MS_divide r1.2 a1 a2
          s3
        else
          r1.2
    let s4 : St := f_MS_keep t3 a3
    (gI s4 28 42, s4)
  else
    (0, s1)
def f_MS_whole (τ : St) (a1 : Int32) (a2 : Int32) : Int32 × St :=
  let t1 : Bool := 
      if f_MS_none a1 = true then
        true
      else
        if f_MS_none a2 = true then
          true
        else
          false
  let s1 : St := sI τ 26 42 (bI t1)
  if (gI s1 26 42) ≤ 0 then
    let s2 : St := f_MS_begin s1
    let r1 : Bool × St := f_MS_goesOn_n s2 a1 true
    let t2 : St := 
        if r1.1 = true then
          if f_MS_kind r1.2 a1 = 4 then
            let s5 : St := f_MS_answer r1.2 (gI r1.2 110 (jat a1)) (gJ r1.2 111 (jat a1))
            s5
          else
            if (f_MS_unit r1.2 a1) < 0 then
              let r2 : Int64 × St := f_MS_rounded r1.2 (gJ r1.2 111 (jat a1)) (-(f_MS_unit r1.2 a1)) (f_MS_minus r1.2 a1)
              let t3 : St := 
                  if gZ r2.2 36 42 = true then
                    let r3 : Bool × St := f_MS_tell r2.2 32
                    r3.2
                  else
                    r2.2
              let s3 : St := f_MS_make t3 (f_MS_minus t3 a1) r2.1 0
              s3
            else
              let s4 : St := f_MS_make r1.2 (f_MS_minus r1.2 a1) (gJ r1.2 111 (jat a1)) (f_MS_unit r1.2 a1)
              s4
        else
          r1.2
    let s6 : St := f_MS_keep t2 a2
    (gI s6 28 42, s6)
  else
    (0, s1)
def b_MS_scale_151 (s4 : St) (t8 : Int32 × Int32) : Bool × (Int32 × Int32) :=
  if (gI s4 35 42) < t8.1 then
    (false, (t8.1, t8.2))
  else
    let t9 : Bool := 
        if 0 ≤ (jlshl (gJ s4 34 42) t8.1) then
          false
        else
          true
    let v1 : Int32 := (2 * t8.2) + (bI t9)
    let v2 : Int32 := t8.1 + 1
    (true, (v2, v1))
def f_MS_scale (τ : St) (a1 : Int32) (a2 : Int32) (a3 : Int32) : Int32 × St :=
  let t1 : Bool := 
      if f_MS_none a1 = true then
        true
      else
        if f_MS_none a2 = true then
          true
        else
          if f_MS_none a3 = true then
            true
          else
            false
  let s1 : St := sI τ 26 42 (bI t1)
  if (gI s1 26 42) ≤ 0 then
    let s2 : St := f_MS_begin s1
    let t2 : Bool := 
        if 4 ≤ (f_MS_kind s2 a2) then
          false
        else
          true
    let t3 : Bool × St := 
        if t2 = true then
          if f_MS_nothing s2 a2 = true then
            (t2, s2)
          else
            let s3 : St := f_MS_apart s2 a2
            let t4 : Bool := 
                if 14 ≤ (gI s3 35 42) then
                  false
                else
                  true
            (t4, s3)
        else
          (t2, s2)
    let r1 : Bool × St := f_MS_goesOn t3.2 a1 a2 t3.1
    let t5 : St := 
        if r1.1 = true then
          if f_MS_kind r1.2 a1 = 4 then
            let s6 : St := f_MS_answer r1.2 (gI r1.2 110 (jat a1)) (gJ r1.2 111 (jat a1))
            s6
          else
            let t6 : Int32 × St := 
                if f_MS_nothing r1.2 a2 = true then
                  (0, r1.2)
                else
                  let s4 : St := f_MS_apart r1.2 a2
                  let t7 : Int32 × Int32 := lpn ((b_MS_scale_151 s4)) (dbf 0 (gI s4 35 42)) (0, 0)
                  (t7.2, s4)
            let t10 : Int32 := 
                if f_MS_minus t6.2 a2 = true then
                  -t6.1
                else
                  t6.1
            let s5 : St := f_MS_make t6.2 (f_MS_minus t6.2 a1) (gJ t6.2 111 (jat a1)) ((f_MS_unit t6.2 a1) + t10)
            s5
        else
          r1.2
    let s7 : St := f_MS_keep t5 a3
    (gI s7 28 42, s7)
  else
    (0, s1)
def b_M_begin_24 (t2 : Int32 × St) : Bool × (Int32 × St) :=
  if 8 ≤ t2.1 then
    (false, (t2.1, t2.2))
  else
    let s5 : St := sZ t2.2 103 (jat t2.1) true
    let v1 : Int32 := t2.1 + 1
    (true, (v1, s5))
def f_M_begin (τ : St) : St :=
  let s1 : St := sI τ 2 30 1023
  let s2 : St := sI s1 3 30 0
  let s3 : St := sI s2 4 30 0
  let s4 : St := sI s3 1 30 0
  let t1 : Int32 × St := lpn ((b_M_begin_24)) (upf 8 0) (0, s4)
  let s6 : St := sI t1.2 5 30 0
  let s7 : St := sI s6 6 30 0
  let s8 : St := sI s7 7 30 0
  s8
def f_M_thrown (τ : St) : Int32 :=
  gI τ 0 30
def f_M_st (τ : St) (a1 : Int32) : Int32 :=
  jrem ((gI τ 1 30) + a1) 8
def b_M_memory_21 (a1 : Int32) (a2 : Int32) (t3 : Int32 × St) : Bool × (Int32 × St) :=
  if 4 ≤ t3.1 then
    (false, (t3.1, t3.2))
  else
    if gI t3.2 0 30 = 0 then
      let s2 : St := sI t3.2 100 (jat (a1 + t3.1)) ((jshr a2 (8 * t3.1)) &&& 255)
      let v1 : Int32 := t3.1 + 1
      (true, (v1, s2))
    else
      (false, (t3.1, t3.2))
def f_M_memory (τ : St) (a1 : Int32) (a2 : Int32) : St :=
  let t1 : Bool := 
      if a1 < 0 then
        true
      else
        if a1 ≤ 90 then
          false
        else
          true
  let s1 : St := sI τ 0 30 (bI t1)
  let t2 : Int32 × St := lpn ((b_M_memory_21 a1 a2)) (upf 4 0) (0, s1)
  t2.2
def f_M_byteAt (τ : St) (a1 : Int32) : Int32 × St :=
  let t1 : Bool := 
      if a1 < 0 then
        true
      else
        if a1 ≤ 93 then
          false
        else
          true
  let s1 : St := sI τ 0 30 (bI t1)
  let t2 : Int32 := 
      if (gI s1 0 30) ≤ 0 then
        gI s1 100 (jat a1)
      else
        0
  (t2, s1)
def f_M_wordAt (τ : St) (a1 : Int32) : Int32 :=
  (gI τ 100 (jat a1)) + (256 * (gI τ 100 (jat (a1 + 1))))
def f_M_setWord (τ : St) (a1 : Int32) (a2 : Int32) : St :=
  let s1 : St := sI τ 100 (jat a1) (jrem a2 256)
  let s2 : St := sI s1 100 (jat (a1 + 1)) (jrem (a2 / 256) 256)
  s2
def b_M_say_12 (a1 : Int32) (t2 : Int32 × St) : Bool × (Int32 × St) :=
  if 8 ≤ t2.1 then
    (false, (t2.1, t2.2))
  else
    let t3 : Bool := 
        if gZ t2.2 9 30 = true then
          true
        else
          if jrem (a1 / t2.1) 2 = 1 then
            if jrem ((gI t2.2 2 30) / t2.1) 2 = 0 then
              true
            else
              false
          else
            false
    let s2 : St := sZ t2.2 9 30 t3
    let v1 : Int32 := 2 * t2.1
    (true, (v1, s2))
def f_M_say (τ : St) (a1 : Int32) : St :=
  let s1 : St := sI τ 8 30 ((gI τ 8 30) ||| a1)
  let t1 : Int32 × St := lpn ((b_M_say_12 a1)) (129) (1, s1)
  t1.2
def b_M_status_4 (τ : St) (t2 : Int32 × Bool) : Bool × (Int32 × Bool) :=
  if 64 ≤ t2.1 then
    (false, (t2.1, t2.2))
  else
    let t3 : Bool := 
        if t2.2 = true then
          true
        else
          if jrem ((gI τ 3 30) / t2.1) 2 = 1 then
            if jrem ((gI τ 2 30) / t2.1) 2 = 0 then
              true
            else
              false
          else
            false
    let v1 : Int32 := 2 * t2.1
    (true, (v1, t3))
def f_M_status (τ : St) : Int32 :=
  let t1 : Int32 × Bool := lpn ((b_M_status_4 τ)) (129) (1, false)
  let t4 : Int32 := 
      if t1.2 = true then
        128
      else
        0
  (((gI τ 3 30) + (gI τ 4 30)) + (2048 * (gI τ 1 30))) + t4
def f_M_tags_b77 (v1 : Int32) (t3 : Bool) : Int32 :=
  if v1 ≤ 0 then
    2
  else
    if 32767 ≤ v1 then
      2
    else
      if t3 = true then
        0
      else
        2
def b_M_tags_5 (τ : St) (t2 : Int32 × Int32) : Bool × (Int32 × Int32) :=
  if t2.1 < 0 then
    (false, (t2.1, t2.2))
  else
    let v1 : Int32 := jrem (gI τ 101 (jat t2.1)) 32768
    let t3 : Bool := 
        if (jlshr (gJ τ 102 (jat t2.1)) 63) &&& 1 = 1 then
          true
        else
          false
    let t4 : Int32 := 
        if gZ τ 103 (jat t2.1) = true then
          3
        else
          if 32767 ≤ v1 then
            f_M_tags_b77 v1 t3
          else
            if gJ τ 102 (jat t2.1) = 0 then
              1
            else
              f_M_tags_b77 v1 t3
    let v2 : Int32 := (4 * t2.2) + t4
    let v3 : Int32 := t2.1 + (-1)
    (true, (v3, v2))
def f_M_tags (τ : St) : Int32 :=
  let t1 : Int32 × Int32 := lpn ((b_M_tags_5 τ)) (dnf 7) (7, 0)
  t1.2
def f_M_want (τ : St) (a1 : Int32) : St :=
  let t1 : St := 
      if gZ τ 103 (jat (f_M_st τ a1)) = true then
        let s1 : St := f_M_say τ 1
        s1
      else
        τ
  t1
def f_M_topOf (τ : St) (a1 : Int32) : Int32 :=
  let t1 : Int32 := 
      if gZ τ 103 (jat (f_M_st τ a1)) = true then
        65535
      else
        gI τ 101 (jat (f_M_st τ a1))
  t1
def f_M_fractionOf (τ : St) (a1 : Int32) : Int64 :=
  let t1 : Int64 := 
      if gZ τ 103 (jat (f_M_st τ a1)) = true then
        (-4611686018427387904)
      else
        gJ τ 102 (jat (f_M_st τ a1))
  t1
def f_M_takeX (τ : St) (a1 : Int32) : St :=
  let s1 : St := sI τ 13 30 (f_M_topOf τ a1)
  let s2 : St := sJ s1 14 30 (f_M_fractionOf s1 a1)
  s2
def f_M_becomeX (τ : St) (a1 : Int32) : St :=
  let s1 : St := sI τ 101 (jat (f_M_st τ a1)) (gI τ 13 30)
  let s2 : St := sJ s1 102 (jat (f_M_st s1 a1)) (gJ s1 14 30)
  let s3 : St := sZ s2 103 (jat (f_M_st s2 a1)) false
  s3
def f_M_pop (τ : St) : St :=
  let s1 : St := sZ τ 103 (jat (gI τ 1 30)) true
  let s2 : St := sI s1 1 30 (jrem ((gI s1 1 30) + 1) 8)
  s2
def f_M_isFull (τ : St) : Bool × St :=
  let t1 : Bool := 
      if gZ τ 103 (jat (f_M_st τ 7)) = true then
        false
      else
        true
  let t2 : St := 
      if t1 = true then
        let s1 : St := f_M_say τ 1
        s1
      else
        τ
  (t1, t2)
def f_M_push (τ : St) (a1 : Bool) : St :=
  if gZ τ 9 30 = true then
    τ
  else
    let s1 : St := sI τ 1 30 (jrem ((gI τ 1 30) + 7) 8)
    let t1 : St := 
        if a1 = true then
          let s2 : St := sI s1 13 30 65535
          let s3 : St := sJ s2 14 30 (-4611686018427387904)
          s3
        else
          s1
    let s4 : St := f_M_becomeX t1 0
    s4
def f_M_kindOf_b340 (v2 : Int32) (v3 : Int32) : Bool :=
  if v2 = 7 then
    if v3 = 0 then
      true
    else
      if v3 = 2 then
        true
      else
        if v3 = 4 then
          true
        else
          if v3 = 5 then
            true
          else
            false
  else
    false
def f_M_kindOf_b313 (v2 : Int32) (v3 : Int32) : Bool :=
  if v2 = 6 then
    if v3 = 4 then
      true
    else
      if v3 = 6 then
        true
      else
        if v3 = 7 then
          true
        else
          f_M_kindOf_b340 v2 v3
  else
    f_M_kindOf_b340 v2 v3
def f_M_kindOf_b300 (v2 : Int32) (v3 : Int32) : Bool :=
  if v2 = 5 then
    if v3 = 7 then
      f_M_kindOf_b313 v2 v3
    else
      true
  else
    f_M_kindOf_b313 v2 v3
def f_M_kindOf_b271 (v2 : Int32) (v3 : Int32) : Bool :=
  if v2 = 4 then
    if v3 = 0 then
      true
    else
      if v3 = 1 then
        true
      else
        if v3 = 4 then
          true
        else
          if v3 = 5 then
            true
          else
            f_M_kindOf_b300 v2 v3
  else
    f_M_kindOf_b300 v2 v3
def f_M_kindOf_b207 (a1 : Int32) (v2 : Int32) (v3 : Int32) : Int32 :=
  if a1 = 0 then
    0
  else
    if a1 = 1 then
      let t1 : Bool := 
          if v2 < 2 then
            true
          else
            if v2 = 2 then
              if v3 = 0 then
                true
              else
                f_M_kindOf_b271 v2 v3
            else
              f_M_kindOf_b271 v2 v3
      let t2 : Bool := 
          if t1 = true then
            false
          else
            true
      bI t2
    else
      if a1 = 2 then
        1
      else
        if a1 = 3 then
          let t3 : Bool := 
              if v2 = 4 then
                if 4 ≤ v3 then
                  true
                else
                  false
              else
                true
          bI t3
        else
          if a1 = 4 then
            let t4 : Bool := 
                if v2 = 2 then
                  true
                else
                  if v2 = 3 then
                    true
                  else
                    false
            bI t4
          else
            if a1 = 5 then
              let t5 : Bool := 
                  if v2 = 0 then
                    false
                  else
                    if v2 = 2 then
                      false
                    else
                      if v2 = 3 then
                        false
                      else
                        true
              bI t5
            else
              if a1 = 6 then
                let t6 : Bool := 
                    if v2 = 2 then
                      true
                    else
                      if v2 = 3 then
                        if v3 = 1 then
                          false
                        else
                          true
                      else
                        false
                bI t6
              else
                1
def f_M_kindOf_b187 (a1 : Int32) (v2 : Int32) (v3 : Int32) : Int32 :=
  if a1 = 1 then
    if v2 = 7 then
      if v3 = 1 then
        2
      else
        f_M_kindOf_b207 a1 v2 v3
    else
      f_M_kindOf_b207 a1 v2 v3
  else
    f_M_kindOf_b207 a1 v2 v3
def f_M_kindOf (a1 : Int32) (a2 : Int32) : Int32 :=
  let v1 : Int32 := a2 / 64
  let v2 : Int32 := jrem (a2 / 8) 8
  let v3 : Int32 := jrem a2 8
  if 3 ≤ v1 then
    if a1 = 1 then
      if v2 = 6 then
        if v3 < 4 then
          2
        else
          f_M_kindOf_b187 a1 v2 v3
      else
        f_M_kindOf_b187 a1 v2 v3
    else
      f_M_kindOf_b187 a1 v2 v3
  else
    if jrem a1 2 = 0 then
      0
    else
      let t7 : Bool := 
          if a1 = 1 then
            if v2 = 1 then
              false
            else
              true
          else
            if a1 = 3 then
              if v2 = 0 then
                true
              else
                if v2 = 2 then
                  true
                else
                  if v2 = 3 then
                    true
                  else
                    if v2 = 5 then
                      true
                    else
                      if v2 = 7 then
                        true
                      else
                        false
            else
              if a1 = 5 then
                if v2 = 0 then
                  true
                else
                  if v2 = 2 then
                    true
                  else
                    if v2 = 3 then
                      true
                    else
                      if v2 = 4 then
                        true
                      else
                        if v2 = 6 then
                          true
                        else
                          if v2 = 7 then
                            true
                          else
                            false
              else
                if v2 = 1 then
                  false
                else
                  true
      let t8 : Bool := 
          if t7 = true then
            false
          else
            true
      bI t8
def f_M_operandOf (a1 : Int32) (a2 : Int32) : Int32 :=
  if a1 = 0 then
    3
  else
    if a1 = 1 then
      let t1 : Int32 := 
          if 4 ≤ a2 then
            if a2 = 4 then
              8
            else
              if a2 = 6 then
                8
              else
                7
          else
            3
      t1
    else
      if a1 = 2 then
        1
      else
        if a1 = 3 then
          let t2 : Int32 := 
              if 4 ≤ a2 then
                6
              else
                1
          t2
        else
          if a1 = 4 then
            4
          else
            if a1 = 5 then
              let t3 : Int32 := 
                  if 4 ≤ a2 then
                    if a2 = 7 then
                      7
                    else
                      9
                  else
                    4
              t3
            else
              if a1 = 6 then
                0
              else
                let t4 : Int32 := 
                    if 4 ≤ a2 then
                      if a2 = 4 then
                        5
                      else
                        if a2 = 6 then
                          5
                        else
                          2
                    else
                      0
                t4
def f_M_isWritten (a1 : Int32) (a2 : Int32) : Bool :=
  let t1 : Bool := 
      if jrem a1 2 = 1 then
        if a2 = 2 then
          true
        else
          if a2 = 3 then
            true
          else
            if a2 = 6 then
              true
            else
              if a2 = 7 then
                true
              else
                false
      else
        false
  t1
def f_M_bytesOf (a1 : Int32) : Int32 :=
  let t1 : Int32 := 
      if a1 = 0 then
        2
      else
        if a1 = 7 then
          2
        else
          if a1 = 1 then
            4
          else
            if a1 = 3 then
              4
            else
              if a1 = 2 then
                8
              else
                if a1 = 4 then
                  8
                else
                  if 7 ≤ a1 then
                    if a1 = 8 then
                      14
                    else
                      94
                  else
                    10
  t1
def f_M_needs (τ : St) (a1 : Int32) (a2 : Int32) : Int32 × St :=
  let t1 : Bool := 
      if a1 < 0 then
        true
      else
        if 7 < a1 then
          true
        else
          if a2 < 0 then
            true
          else
            if a2 ≤ 255 then
              false
            else
              true
  let s1 : St := sI τ 0 30 (bI t1)
  if 0 < (gI s1 0 30) then
    (0, s1)
  else
    if 192 ≤ a2 then
      (0, s1)
    else
      if f_M_kindOf a1 a2 = 0 then
        let v1 : Int32 := f_M_bytesOf (f_M_operandOf a1 (jrem (a2 / 8) 8))
        let t2 : Int32 := 
            if f_M_isWritten a1 (jrem (a2 / 8) 8) = true then
              -v1
            else
              v1
        (t2, s1)
      else
        (0, s1)
def f_M_high (a1 : Int64) : Int32 :=
  Int64.toInt32 (jlshr a1 32)
def f_M_operate (τ : St) (a1 : Int32) (a2 : Int32) (a3 : Int64) (a4 : Int32) (a5 : Int64) : St :=
  let s1 : St := f_MO_control τ (gI τ 2 30)
  let s2 : St := f_MO_set s1 0 a2 (f_M_high a3) (Int64.toInt32 a3)
  let s3 : St := f_MO_set s2 1 a4 (f_M_high a5) (Int64.toInt32 a5)
  let r1 : Int32 × St := f_MO_operate s3 a1 0 1 2
  let s4 : St := f_M_say r1.2 r1.1
  let r2 : Int32 × St := f_MO_part s4 2 0
  let s5 : St := sI r2.2 13 30 r2.1
  let r3 : Int32 × St := f_MO_part s5 2 1
  let r4 : Int32 × St := f_MO_part r3.2 2 2
  let s6 : St := sJ r4.2 14 30 ((jlshl (Int32.toInt64 r3.1) 32) ||| ((Int32.toInt64 r4.1) &&& 4294967295))
  s6
def f_M_giveSteps (τ : St) (a1 : Int32) (a2 : Int32) (a3 : Int64) : St :=
  let s1 : St := f_MS_control τ (gI τ 2 30)
  let s2 : St := f_MS_set s1 a1 a2 (f_M_high a3) (Int64.toInt32 a3)
  s2
def f_M_fromSteps (τ : St) (a1 : Int32) : St :=
  let r1 : Int32 × St := f_MS_part τ a1 0
  let s1 : St := sI r1.2 13 30 r1.1
  let r2 : Int32 × St := f_MS_part s1 a1 1
  let r3 : Int32 × St := f_MS_part r2.2 a1 2
  let s2 : St := sJ r3.2 14 30 ((jlshl (Int32.toInt64 r2.1) 32) ||| ((Int32.toInt64 r3.1) &&& 4294967295))
  s2
def f_M_condition (τ : St) (a1 : Int32) (a2 : Bool) : St :=
  let t1 : Bool := 
      if jrem ((gI τ 4 30) / a1) 2 = 1 then
        true
      else
        false
  let t2 : Int32 := 
      if a2 = t1 then
        0
      else
        if a2 = true then
          a1
        else
          -a1
  let s1 : St := sI τ 4 30 ((gI τ 4 30) + t2)
  s1
def f_M_compare (τ : St) (a1 : Bool) : St :=
  let s1 : St := f_M_giveSteps τ 0 (f_M_topOf τ 0) (f_M_fractionOf τ 0)
  let s2 : St := f_M_giveSteps s1 1 (gI s1 13 30) (gJ s1 14 30)
  let t1 : Int32 × St := 
      if a1 = true then
        let r2 : Int32 × St := f_MS_test s2 0
        (r2.1, r2.2)
      else
        let r1 : Int32 × St := f_MS_compare s2 0 1
        (r1.1, r1.2)
  let r3 : Int32 × St := f_MS_told t1.2 0
  let s3 : St := f_M_say r3.2 r3.1
  if gZ s3 9 30 = true then
    s3
  else
    let t2 : Bool := 
        if t1.1 = (-1) then
          true
        else
          if t1.1 = 2 then
            true
          else
            false
    let s4 : St := f_M_condition s3 256 t2
    let t3 : Bool := 
        if t1.1 = 2 then
          true
        else
          false
    let s5 : St := f_M_condition s4 1024 t3
    let t4 : Bool := 
        if t1.1 = 0 then
          true
        else
          if t1.1 = 2 then
            true
          else
            false
    let s6 : St := f_M_condition s5 16384 t4
    s6
def f_M_reckon_b16 (τ : St) : St :=
  let s3 : St := f_M_compare τ false
  let t4 : St := 
      if gI s3 11 30 = 3 then
        if gZ s3 9 30 = true then
          s3
        else
          let s4 : St := f_M_pop s3
          s4
      else
        s3
  t4
def f_M_reckon (τ : St) (a1 : Int32) : St :=
  if gI τ 11 30 = 2 then
    f_M_reckon_b16 τ
  else
    if gI τ 11 30 = 3 then
      f_M_reckon_b16 τ
    else
      let t1 : Int32 := 
          if gI τ 11 30 = 0 then
            0
          else
            if gI τ 11 30 = 1 then
              3
            else
              (gI τ 11 30) - 3
      let t2 : Int32 := 
          if gI τ 11 30 = 6 then
            4
          else
            if gI τ 11 30 = 7 then
              5
            else
              t1
      let s1 : St := f_M_operate τ t2 (f_M_topOf τ 0) (f_M_fractionOf τ 0) (gI τ 13 30) (gJ τ 14 30)
      let t3 : St := 
          if gZ s1 9 30 = true then
            s1
          else
            let s2 : St := f_M_becomeX s1 a1
            s2
      t3
def f_M_read (τ : St) (a1 : Int32) : St :=
  let v1 : Int32 := (f_M_wordAt τ 0) + (jshl (f_M_wordAt τ 2) 16)
  let v2 : Int32 := (f_M_wordAt τ 4) + (jshl (f_M_wordAt τ 6) 16)
  let s1 : St := f_MC_control τ (gI τ 2 30)
  let s2 : St := f_MC_memory s1 v1 v2 (f_M_wordAt s1 8)
  let r1 : Int32 × St := f_MC_read s2 a1 0
  let s3 : St := f_M_say r1.2 r1.1
  let r2 : Int32 × St := f_MC_part s3 0 0
  let s4 : St := sI r2.2 13 30 r2.1
  let r3 : Int32 × St := f_MC_part s4 0 1
  let r4 : Int32 × St := f_MC_part r3.2 0 2
  let s5 : St := sJ r4.2 14 30 ((jlshl (Int32.toInt64 r3.1) 32) ||| ((Int32.toInt64 r4.1) &&& 4294967295))
  s5
def b_M_write_138 (a1 : Int32) (t3 : Int32 × St) : Bool × (Int32 × St) :=
  if (f_M_bytesOf a1) ≤ t3.1 then
    (false, (t3.1, t3.2))
  else
    let r2 : Int32 × St := f_MC_byteAt t3.2 t3.1
    let s7 : St := sI r2.2 100 (jat t3.1) r2.1
    let v1 : Int32 := t3.1 + 1
    (true, (v1, s7))
def f_M_write_b98 (r1 : Int32 × St) (s5 : St) : Bool :=
  if jrem (r1.1 / 16) 2 = 1 then
    if jrem ((gI s5 2 30) / 16) 2 = 0 then
      true
    else
      false
  else
    false
def f_M_write (τ : St) (a1 : Int32) : St :=
  let s1 : St := f_M_want τ 0
  if gZ s1 9 30 = true then
    s1
  else
    let s2 : St := f_M_takeX s1 0
    let s3 : St := f_MC_control s2 (gI s2 2 30)
    let s4 : St := f_MC_set s3 0 (gI s3 13 30) (f_M_high (gJ s3 14 30)) (Int64.toInt32 (gJ s3 14 30))
    let r1 : Int32 × St := f_MC_write s4 a1 0
    let s5 : St := f_M_say r1.2 r1.1
    let t1 : Bool := 
        if gZ s5 9 30 = true then
          true
        else
          if jrem (r1.1 / 8) 2 = 1 then
            if jrem ((gI s5 2 30) / 8) 2 = 0 then
              true
            else
              f_M_write_b98 r1 s5
          else
            f_M_write_b98 r1 s5
    let s6 : St := sZ s5 9 30 t1
    if gZ s6 9 30 = true then
      s6
    else
      let t2 : Int32 × St := lpn ((b_M_write_138 a1)) (upf (f_M_bytesOf a1) 0) (0, s6)
      let t4 : St := 
          if gI t2.2 11 30 = 2 then
            t2.2
          else
            let s8 : St := f_M_pop t2.2
            s8
      t4
def f_M_writeEnvironment (τ : St) : St :=
  let s1 : St := f_M_setWord τ 0 (gI τ 2 30)
  let s2 : St := f_M_setWord s1 2 (f_M_status s1)
  let s3 : St := f_M_setWord s2 4 (f_M_tags s2)
  let s4 : St := f_M_setWord s3 6 (jrem (gI s3 6 30) 65536)
  let s5 : St := f_M_setWord s4 8 ((((gI s4 6 30) / 65536) * 4096) + (gI s4 5 30))
  let s6 : St := f_M_setWord s5 10 (jrem (gI s5 7 30) 65536)
  let s7 : St := f_M_setWord s6 12 (((gI s6 7 30) / 65536) * 4096)
  s7
def b_M_readEnvironment_94 (t2 : Int32 × Int32 × St) : Bool × (Int32 × Int32 × St) :=
  if 8 ≤ t2.1 then
    (false, (t2.1, t2.2.1, t2.2.2))
  else
    let t3 : Bool := 
        if jrem t2.2.1 4 = 3 then
          true
        else
          false
    let s5 : St := sZ t2.2.2 103 (jat t2.1) t3
    let v3 : Int32 := t2.2.1 / 4
    let v4 : Int32 := t2.1 + 1
    (true, (v4, v3, s5))
def f_M_readEnvironment (τ : St) : St :=
  let s1 : St := sI τ 2 30 (f_M_wordAt τ 0)
  let v1 : Int32 := f_M_wordAt s1 2
  let s2 : St := sI s1 3 30 (jrem v1 64)
  let s3 : St := sI s2 4 30 (((((jrem (v1 / 256) 2) * 256) + ((jrem (v1 / 512) 2) * 512)) + ((jrem (v1 / 1024) 2) * 1024)) + ((jrem (v1 / 16384) 2) * 16384))
  let s4 : St := sI s3 1 30 (jrem (v1 / 2048) 8)
  let v2 : Int32 := f_M_wordAt s4 4
  let t1 : Int32 × Int32 × St := lpn ((b_M_readEnvironment_94)) (upf 8 0) (0, v2, s4)
  let s6 : St := sI t1.2.2 6 30 ((f_M_wordAt t1.2.2 6) + (((f_M_wordAt t1.2.2 8) / 4096) * 65536))
  let s7 : St := sI s6 5 30 (jrem (f_M_wordAt s6 8) 2048)
  let s8 : St := sI s7 7 30 ((f_M_wordAt s7 10) + (((f_M_wordAt s7 12) / 4096) * 65536))
  s8
def b_M_writeState_14 (t2 : Int32 × St) (t4 : Int32 × St) : Bool × (Int32 × St) :=
  if 8 ≤ t4.1 then
    (false, (t4.1, t4.2))
  else
    let s2 : St := sI t4.2 100 (jat ((14 + (10 * t2.1)) + t4.1)) (Int64.toInt32 ((jlshr (gJ t4.2 102 (jat (f_M_st t4.2 t2.1))) (8 * t4.1)) &&& 255))
    let v1 : Int32 := t4.1 + 1
    (true, (v1, s2))
def b_M_writeState_6 (t2 : Int32 × St) : Bool × (Int32 × St) :=
  if 8 ≤ t2.1 then
    (false, (t2.1, t2.2))
  else
    let t3 : Int32 × St := lpn ((b_M_writeState_14 t2)) (upf 8 0) (0, t2.2)
    let s3 : St := f_M_setWord t3.2 (22 + (10 * t2.1)) (gI t3.2 101 (jat (f_M_st t3.2 t2.1)))
    let v2 : Int32 := t2.1 + 1
    (true, (v2, s3))
def f_M_writeState (τ : St) : St :=
  let s1 : St := f_M_writeEnvironment τ
  let t1 : Int32 × St := lpn ((b_M_writeState_6)) (upf 8 0) (0, s1)
  let s4 : St := f_M_begin t1.2
  s4
def b_M_readState_18 (t2 : Int32 × St) (t4 : Int32 × Int64) : Bool × (Int32 × Int64) :=
  if t4.1 < 0 then
    (false, (t4.1, t4.2))
  else
    let v1 : Int64 := (256 * t4.2) + (Int32.toInt64 (gI t2.2 100 (jat ((14 + (10 * t2.1)) + t4.1))))
    let v2 : Int32 := t4.1 + (-1)
    (true, (v2, v1))
def b_M_readState_6 (t2 : Int32 × St) : Bool × (Int32 × St) :=
  if 8 ≤ t2.1 then
    (false, (t2.1, t2.2))
  else
    let t3 : Int32 × Int64 := lpn ((b_M_readState_18 t2)) (dnf 7) (7, 0)
    let s2 : St := sJ t2.2 102 (jat (f_M_st t2.2 t2.1)) t3.2
    let s3 : St := sI s2 101 (jat (f_M_st s2 t2.1)) (f_M_wordAt s2 (22 + (10 * t2.1)))
    let v3 : Int32 := t2.1 + 1
    (true, (v3, s3))
def f_M_readState (τ : St) : St :=
  let s1 : St := f_M_readEnvironment τ
  let t1 : Int32 × St := lpn ((b_M_readState_6)) (upf 8 0) (0, s1)
  t1.2
def f_M_inMemory (τ : St) : St :=
  let v1 : Int32 := f_M_operandOf (gI τ 10 30) (gI τ 11 30)
  let v2 : Bool := f_M_isWritten (gI τ 10 30) (gI τ 11 30)
  let t1 : St := 
      if jrem (gI τ 10 30) 2 = 0 then
        let s11 : St := f_M_want τ 0
        let t3 : St := 
            if gZ s11 9 30 = true then
              s11
            else
              let s12 : St := f_M_read s11 v1
              s12
        if gZ t3 9 30 = true then
          t3
        else
          let s13 : St := f_M_reckon t3 0
          s13
      else
        if v1 = 9 then
          if v2 = true then
            let s10 : St := f_M_writeState τ
            s10
          else
            let s9 : St := f_M_readState τ
            s9
        else
          if v1 = 8 then
            if v2 = true then
              let s8 : St := f_M_writeEnvironment τ
              s8
            else
              let s7 : St := f_M_readEnvironment τ
              s7
          else
            if v1 = 7 then
              if gI τ 10 30 = 5 then
                let s6 : St := f_M_setWord τ 0 (f_M_status τ)
                s6
              else
                if v2 = true then
                  let s5 : St := f_M_setWord τ 0 (gI τ 2 30)
                  s5
                else
                  let s4 : St := sI τ 2 30 (f_M_wordAt τ 0)
                  s4
            else
              if v2 = true then
                let s3 : St := f_M_write τ v1
                s3
              else
                let r1 : Bool × St := f_M_isFull τ
                let t2 : St := 
                    if r1.1 = true then
                      r1.2
                    else
                      let s1 : St := f_M_read r1.2 v1
                      s1
                let s2 : St := f_M_push t2 r1.1
                s2
  t1
def f_M_copy (τ : St) : St :=
  if gI τ 11 30 = 0 then
    let s5 : St := sZ τ 103 (jat (f_M_st τ (gI τ 12 30))) true
    s5
  else
    let s1 : St := f_M_want τ 0
    if gZ s1 9 30 = true then
      s1
    else
      let s2 : St := f_M_takeX s1 0
      let s3 : St := f_M_becomeX s2 (gI s2 12 30)
      let t1 : St := 
          if gI s3 11 30 = 3 then
            let s4 : St := f_M_pop s3
            s4
          else
            s3
      t1
def f_M_change (τ : St) : St :=
  let s1 : St := f_M_want τ 0
  let s2 : St := f_M_want s1 (gI s1 12 30)
  if gZ s2 9 30 = true then
    s2
  else
    let v1 : Int32 := f_M_topOf s2 0
    let v2 : Int64 := f_M_fractionOf s2 0
    let s3 : St := f_M_takeX s2 (gI s2 12 30)
    let s4 : St := f_M_becomeX s3 0
    let s5 : St := sI s4 13 30 v1
    let s6 : St := sJ s5 14 30 v2
    let s7 : St := f_M_becomeX s6 (gI s6 12 30)
    s7
def f_M_look (τ : St) : St :=
  if gI τ 12 30 = 5 then
    let s6 : St := f_M_giveSteps τ 0 (gI τ 101 (jat (gI τ 1 30))) (gJ τ 102 (jat (gI τ 1 30)))
    let t4 : Int32 × St := 
        if gZ s6 103 (jat (gI s6 1 30)) = true then
          (9, s6)
        else
          let r1 : Int32 × St := f_MS_examine s6 0
          (r1.1, r1.2)
    let t5 : Bool := 
        if jrem t4.1 2 = 1 then
          true
        else
          false
    let s7 : St := f_M_condition t4.2 256 t5
    let t6 : Bool := 
        if jrem (t4.1 / 2) 2 = 1 then
          true
        else
          false
    let s8 : St := f_M_condition s7 512 t6
    let t7 : Bool := 
        if jrem (t4.1 / 4) 2 = 1 then
          true
        else
          false
    let s9 : St := f_M_condition s8 1024 t7
    let t8 : Bool := 
        if t4.1 / 8 = 1 then
          true
        else
          false
    let s10 : St := f_M_condition s9 16384 t8
    s10
  else
    let s1 : St := f_M_want τ 0
    if gZ s1 9 30 = true then
      s1
    else
      let s2 : St := f_M_takeX s1 0
      let t1 : St := 
          if gI s2 12 30 = 4 then
            let s5 : St := f_M_compare s2 true
            s5
          else
            let t2 : Bool := 
                if (gI s2 13 30) ≤ 32767 then
                  false
                else
                  true
            let t3 : Int32 := 
                if gI s2 12 30 = 0 then
                  if t2 = true then
                    0
                  else
                    32768
                else
                  0
            let s3 : St := sI s2 13 30 ((jrem (gI s2 13 30) 32768) + t3)
            let s4 : St := f_M_becomeX s3 0
            s4
      t1
def f_M_split (τ : St) : St :=
  let s1 : St := f_M_want τ 0
  if gZ s1 9 30 = true then
    s1
  else
    let r1 : Bool × St := f_M_isFull s1
    if gZ r1.2 9 30 = true then
      r1.2
    else
      let s2 : St := f_M_giveSteps r1.2 0 (f_M_topOf r1.2 0) (f_M_fractionOf r1.2 0)
      let r2 : Int32 × St := f_MS_extract s2 0 1 2
      let s3 : St := f_M_say r2.2 r2.1
      if gZ s3 9 30 = true then
        s3
      else
        let s4 : St := f_M_fromSteps s3 1
        let s5 : St := f_M_becomeX s4 0
        let s6 : St := f_M_fromSteps s5 2
        let s7 : St := f_M_push s6 r1.1
        s7
def f_M_step (τ : St) : St :=
  let t1 : Bool := 
      if gI τ 12 30 = 0 then
        true
      else
        if gI τ 12 30 = 5 then
          true
        else
          false
  let s1 : St := f_M_want τ 0
  let t2 : St := 
      if t1 = true then
        let s2 : St := f_M_want s1 1
        s2
      else
        s1
  if gZ t2 9 30 = true then
    t2
  else
    if gI t2 12 30 = 2 then
      let s12 : St := f_M_operate t2 6 (f_M_topOf t2 0) (f_M_fractionOf t2 0) 0 0
      let t10 : St := 
          if gZ s12 9 30 = true then
            s12
          else
            let s13 : St := f_M_becomeX s12 0
            s13
      t10
    else
      let s3 : St := f_M_giveSteps t2 0 (f_M_topOf t2 0) (f_M_fractionOf t2 0)
      let t3 : St := 
          if t1 = true then
            let s4 : St := f_M_giveSteps s3 1 (f_M_topOf s3 1) (f_M_fractionOf s3 1)
            s4
          else
            s3
      let t4 : Int32 × St := 
          if gI t3 12 30 = 0 then
            let r3 : Int32 × St := f_MS_remainder t3 0 1 2
            (r3.1, r3.2)
          else
            if gI t3 12 30 = 4 then
              let r2 : Int32 × St := f_MS_whole t3 0 2
              (r2.1, r2.2)
            else
              let r1 : Int32 × St := f_MS_scale t3 0 1 2
              (r1.1, r1.2)
      let s5 : St := f_M_say t4.2 t4.1
      if gZ s5 9 30 = true then
        s5
      else
        let s6 : St := f_M_fromSteps s5 2
        let s7 : St := f_M_becomeX s6 0
        let t5 : St := 
            if gI s7 12 30 = 0 then
              if jrem t4.1 2 = 0 then
                let r4 : Int32 × St := f_MS_told s7 2
                let r5 : Int32 × St := f_MS_told r4.2 3
                let t6 : Bool := 
                    if r5.1 = 1 then
                      true
                    else
                      false
                let s8 : St := f_M_condition r5.2 1024 t6
                let t7 : Bool := 
                    if jrem (r4.1 / 4) 2 = 1 then
                      true
                    else
                      false
                let s9 : St := f_M_condition s8 256 t7
                let t8 : Bool := 
                    if jrem (r4.1 / 2) 2 = 1 then
                      true
                    else
                      false
                let s10 : St := f_M_condition s9 16384 t8
                let t9 : Bool := 
                    if jrem r4.1 2 = 1 then
                      true
                    else
                      false
                let s11 : St := f_M_condition s10 512 t9
                s11
              else
                s7
            else
              s7
        t5
def f_M_alone (τ : St) : St :=
  if gI τ 11 30 = 0 then
    let s10 : St := f_M_want τ (gI τ 12 30)
    if gZ s10 9 30 = true then
      s10
    else
      let r2 : Bool × St := f_M_isFull s10
      let s11 : St := f_M_takeX r2.2 (gI r2.2 12 30)
      let s12 : St := f_M_push s11 r2.1
      s12
  else
    let t1 : St := 
        if gI τ 11 30 = 1 then
          let s9 : St := f_M_change τ
          s9
        else
          if gI τ 11 30 = 4 then
            let s8 : St := f_M_look τ
            s8
          else
            if gI τ 11 30 = 5 then
              let r1 : Bool × St := f_M_isFull τ
              let t2 : Int32 := 
                  if gI r1.2 12 30 = 6 then
                    0
                  else
                    (gI r1.2 12 30) + 1
              let s5 : St := f_MS_constant r1.2 t2 7
              let s6 : St := f_M_fromSteps s5 7
              let s7 : St := f_M_push s6 r1.1
              s7
            else
              if gI τ 11 30 = 6 then
                if gI τ 12 30 = 6 then
                  let s4 : St := sI τ 1 30 (jrem ((gI τ 1 30) + 7) 8)
                  s4
                else
                  if gI τ 12 30 = 7 then
                    let s3 : St := sI τ 1 30 (jrem ((gI τ 1 30) + 1) 8)
                    s3
                  else
                    let s2 : St := f_M_split τ
                    s2
              else
                if gI τ 11 30 = 7 then
                  let s1 : St := f_M_step τ
                  s1
                else
                  τ
    t1
def f_M_inRegisters_b23 (τ : St) : St :=
  let s8 : St := sI τ 2 30 (((gI τ 2 30) - ((jrem ((gI τ 2 30) / 128) 2) * 128)) + (128 * (gI τ 12 30)))
  s8
def f_M_inRegisters (τ : St) : St :=
  if gI τ 10 30 = 3 then
    let t3 : St := 
        if gI τ 12 30 = 0 then
          f_M_inRegisters_b23 τ
        else
          if gI τ 12 30 = 1 then
            f_M_inRegisters_b23 τ
          else
            τ
    let t4 : St := 
        if gI t3 12 30 = 2 then
          let s9 : St := sI t3 3 30 0
          s9
        else
          t3
    let t5 : St := 
        if gI t4 12 30 = 3 then
          let s10 : St := f_M_begin t4
          s10
        else
          t4
    t5
  else
    if gI τ 10 30 = 5 then
      let s7 : St := f_M_copy τ
      s7
    else
      if gI τ 10 30 = 1 then
        let s6 : St := f_M_alone τ
        s6
      else
        let s1 : St := f_M_want τ 0
        let s2 : St := f_M_want s1 (gI s1 12 30)
        if gZ s2 9 30 = true then
          s2
        else
          let s3 : St := f_M_takeX s2 (gI s2 12 30)
          let t1 : Int32 := 
              if gI s3 10 30 = 0 then
                0
              else
                gI s3 12 30
          let s4 : St := f_M_reckon s3 t1
          let t2 : St := 
              if gI s4 10 30 = 6 then
                if gZ s4 9 30 = true then
                  s4
                else
                  let s5 : St := f_M_pop s4
                  s5
              else
                s4
          t2
def f_M_execute_b164 (s6 : St) : Bool :=
  if gI s6 10 30 = 5 then
    if gI s6 11 30 = 4 then
      false
    else
      if gI s6 11 30 = 6 then
        false
      else
        if gI s6 11 30 = 7 then
          false
        else
          true
  else
    true
def f_M_execute (τ : St) (a1 : Int32) (a2 : Int32) (a3 : Int32) (a4 : Int32) : Int32 × St :=
  let t1 : Bool := 
      if a1 < 0 then
        true
      else
        if 7 < a1 then
          true
        else
          if a2 < 0 then
            true
          else
            if 255 < a2 then
              true
            else
              if a3 < 0 then
                true
              else
                if 1048575 < a3 then
                  true
                else
                  if a4 < 0 then
                    true
                  else
                    if a4 ≤ 1048575 then
                      false
                    else
                      true
  let s1 : St := sI τ 0 30 (bI t1)
  if (gI s1 0 30) ≤ 0 then
    let v1 : Int32 := f_M_kindOf a1 a2
    if v1 ≤ 0 then
      let s2 : St := sI s1 10 30 a1
      let s3 : St := sI s2 11 30 (jrem (a2 / 8) 8)
      let s4 : St := sI s3 12 30 (jrem a2 8)
      let s5 : St := sI s4 8 30 0
      let s6 : St := sZ s5 9 30 false
      let t2 : Bool := 
          if a2 < 192 then
            false
          else
            true
      let t3 : Bool := 
          if t2 = true then
            if gI s6 10 30 = 3 then
              false
            else
              true
          else
            if gI s6 10 30 = 1 then
              if 3 < (gI s6 11 30) then
                false
              else
                f_M_execute_b164 s6
            else
              f_M_execute_b164 s6
      let t4 : St := 
          if t3 = true then
            let s7 : St := sI s6 5 30 ((256 * (gI s6 10 30)) + a2)
            let s8 : St := sI s7 6 30 a3
            let s9 : St := sI s8 7 30 a4
            s9
          else
            s6
      let t5 : St := 
          if t2 = true then
            let s11 : St := f_M_inRegisters t4
            s11
          else
            let s10 : St := f_M_inMemory t4
            s10
      let s12 : St := sI t5 3 30 ((gI t5 3 30) ||| (gI t5 8 30))
      let s13 : St := sI s12 0 30 0
      (0, s13)
    else
      (v1, s1)
  else
    (0, s1)
def f_M_word (τ : St) (a1 : Int32) : Int32 × St :=
  let t1 : Bool := 
      if a1 < 0 then
        true
      else
        if a1 ≤ 7 then
          false
        else
          true
  let s1 : St := sI τ 0 30 (bI t1)
  if (gI s1 0 30) ≤ 0 then
    if a1 = 0 then
      (gI s1 2 30, s1)
    else
      if a1 = 1 then
        (f_M_status s1, s1)
      else
        if a1 = 2 then
          (f_M_tags s1, s1)
        else
          if a1 = 3 then
            let t2 : Bool := 
                if jrem ((f_M_status s1) / 128) 2 = 1 then
                  if jrem ((gI s1 2 30) / 128) 2 = 0 then
                    true
                  else
                    false
                else
                  false
            (bI t2, s1)
          else
            if a1 = 4 then
              (gI s1 5 30, s1)
            else
              if a1 = 5 then
                (gI s1 6 30, s1)
              else
                if a1 = 6 then
                  (gI s1 7 30, s1)
                else
                  (gI s1 8 30, s1)
  else
    (0, s1)
def f_M_part (τ : St) (a1 : Int32) (a2 : Int32) : Int32 × St :=
  let t1 : Int32 := 
      if a1 < 0 then
        1
      else
        if a1 ≤ 7 then
          if a2 < 0 then
            2
          else
            if a2 ≤ 2 then
              0
            else
              2
        else
          1
  let s1 : St := sI τ 0 30 t1
  if (gI s1 0 30) ≤ 0 then
    let t2 : Int32 := 
        if a2 = 0 then
          gI s1 101 (jat (f_M_st s1 a1))
        else
          if a2 = 1 then
            f_M_high (gJ s1 102 (jat (f_M_st s1 a1)))
          else
            Int64.toInt32 (gJ s1 102 (jat (f_M_st s1 a1)))
    (t2, s1)
  else
    (0, s1)
