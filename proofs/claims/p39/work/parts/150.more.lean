-- functions of other methods, of which nothing is walked here
def f_X8_isIn (p0 : Int32) (p1 : Int32) (p2 : Int32) : Option Bool :=
  jn (fun (v1 : Bool) =>
    some v1) fun (j15 : Bool → Option Bool) =>
  jn (
    j15 false) fun (j14 : Option Bool) =>
  if p0 < p1 then
    j14
  else
  if p2 < p0 then
    j14
  else
  j15 true
def f_X8_wrong (h : Hp) (p1 : Int32) : Option (Bool × Hp) :=
  lt_ (sI h 8 0 4 p1) fun h1 =>
  lt_ (sI h1 8 0 5 (gI h1 8 0 10)) fun h2 =>
  some (false, h2)
def f_X8_wordAt_57 (h : Hp) (p1 : Int32) (r5 : Int32 → Int32 → Option Int32) (v1 : Int32) (v2 : Int32) (v3 : Int32) (r57 : Bool → Int32 → Option Int32) (v5 : Bool) (v6 : Int32) : Option Int32 :=
  jn (
    if (b2i v5) = 0 then
      lt_ ((v2 + (v3 + 1))) fun v7 =>
      lt_ (v1 + 1) fun v8 =>
      r5 v8 v7
    else
    some v1) fun (j104 : Option Int32) =>
  if v3 ≤ v6 then
    j104
  else
  if (b2i v5) = 0 then
    j104
  else
  grd (inb (v2 + v6) 131) <|
  grd (inb (p1 + v6) 700) <|
  jn (fun (v9 : Bool) =>
    lt_ (v6 + 1) fun v10 =>
    r57 v9 v10) fun (j96 : Bool → Option Int32) =>
  if ¬ (gA h 8 0 1 (v2 + v6).toNatClampNeg) = (gA h 8 0 0 (p1 + v6).toNatClampNeg) then
    j96 false
  else
  j96 true
def f_X8_wordAt_18 (N : Nat) (h : Hp) (p1 : Int32) (p2 : Int32) (r5 : Int32 → Int32 → Option Int32) (v1 : Int32) (v2 : Int32) (r18 : Int32 → Option Int32) (v3 : Int32) : Option Int32 :=
  grd (inb (v2 + v3) 131) <|
  if (gA h 8 0 1 (v2 + v3).toNatClampNeg) = 32 then
    jn (fun (v4 : Bool) =>
      iter (fun _ _ => none) (f_X8_wordAt_57 h p1 r5 v1 v2 v3) N v4 0) fun (j52 : Bool → Option Int32) =>
    if ¬ v3 = (p2 - p1) then
      j52 false
    else
    j52 true
  else
  lt_ (v3 + 1) fun v11 =>
  r18 v11
def f_X8_wordAt_5 (N : Nat) (h : Hp) (p1 : Int32) (p2 : Int32) (r5 : Int32 → Int32 → Option Int32) (v1 : Int32) (v2 : Int32) : Option Int32 :=
  if 131 ≤ v2 then
    some (-1)
  else
  iter (fun _ => none) (f_X8_wordAt_18 N h p1 p2 r5 v1 v2) N 0
def f_X8_wordAt (N : Nat) (h : Hp) (p1 : Int32) (p2 : Int32) : Option Int32 :=
  iter (fun _ _ => none) (f_X8_wordAt_5 N h p1 p2) N 0 0
def f_X8_isSmall (h : Hp) (p1 : Int32) : Option Bool :=
  jn (fun (v1 : Bool) =>
    some v1) fun (j35 : Bool → Option Bool) =>
  jn (
    j35 false) fun (j34 : Option Bool) =>
  if (gI h 8 0 6) ≤ p1 then
    j34
  else
  grd (inb p1 700) <|
  if (gA h 8 0 0 p1.toNatClampNeg) < 97 then
    j34
  else
  grd (inb p1 700) <|
  if 122 < (gA h 8 0 0 p1.toNatClampNeg) then
    j34
  else
  j35 true
def f_X8_isDigit (h : Hp) (p1 : Int32) : Option Bool :=
  jn (fun (v1 : Bool) =>
    some v1) fun (j35 : Bool → Option Bool) =>
  jn (
    j35 false) fun (j34 : Option Bool) =>
  if (gI h 8 0 6) ≤ p1 then
    j34
  else
  grd (inb p1 700) <|
  if (gA h 8 0 0 p1.toNatClampNeg) < 48 then
    j34
  else
  grd (inb p1 700) <|
  if 57 < (gA h 8 0 0 p1.toNatClampNeg) then
    j34
  else
  j35 true
def f_X8_packed_5 (h : Hp) (p1 : Int32) (p2 : Int32) (r5 : Int32 → Int32 → Option Int32) (v1 : Int32) (v2 : Int32) : Option Int32 :=
  if (p1 + 6) ≤ v2 then
    some v1
  else
  jn (fun (v3 : Int32) =>
    lt_ (((v1 <<< (5 &&& 31)) ||| v3)) fun v4 =>
    lt_ (v2 + 1) fun v5 =>
    r5 v4 v5) fun (j37 : Int32 → Option Int32) =>
  if p2 ≤ v2 then
    j37 0
  else
  grd (inb v2 700) <|
  j37 ((gA h 8 0 0 v2.toNatClampNeg) - 96)
def f_X8_packed (N : Nat) (h : Hp) (p1 : Int32) (p2 : Int32) : Option Int32 :=
  iter (fun _ _ => none) (f_X8_packed_5 h p1 p2) N 0 p1
def f_X8_signToken (h : Hp) : Option Hp :=
  grd (inb (gI h 8 0 7) 700) <|
  lt_ (sI h 8 0 9 (gA h 8 0 0 (gI h 8 0 7).toNatClampNeg)) fun h1 =>
  lt_ (sI h1 8 0 7 ((gI h1 8 0 7) + 1)) fun h2 =>
  jn (fun (h3 : Hp) =>
    some h3) fun (j290 : Hp → Option Hp) =>
  jn (
    jn (fun (v4 : Int32) =>
      jn (fun (v5 : Bool) =>
        jn (fun (v6 : Bool) =>
          jn (fun (h7 : Hp) =>
            lt_ (sI h7 8 0 8 5) fun h8 =>
            jn (fun (v9 : Int32) =>
              lt_ (sI h8 8 0 9 v9) fun h10 =>
              j290 h10) fun (j192 : Int32 → Option Hp) =>
            if ¬ (gI h8 8 0 9) = 61 then
              if ¬ (gI h8 8 0 9) = 60 then
                if (b2i v5) = 0 then
                  j192 5
                else
                j192 4
              else
              if (b2i v5) = 0 then
                if (b2i v6) = 0 then
                  j192 0
                else
                j192 3
              else
              j192 1
            else
            j192 2) fun (j135 : Hp → Option Hp) =>
          jn (
            lt_ (sI h2 8 0 7 ((gI h2 8 0 7) + 1)) fun h11 =>
            j135 h11) fun (j125 : Option Hp) =>
          if ¬ (b2i v5) = 0 then
            j125
          else
          if (b2i v6) = 0 then
            j135 h2
          else
          j125) fun (j116 : Bool → Option Hp) =>
        jn (
          j116 false) fun (j115 : Option Hp) =>
        if ¬ (gI h2 8 0 9) = 60 then
          j115
        else
        if ¬ v4 = 62 then
          j115
        else
        j116 true) fun (j95 : Bool → Option Hp) =>
      jn (
        j95 false) fun (j94 : Option Hp) =>
      if (gI h2 8 0 9) = 61 then
        j94
      else
      if ¬ v4 = 61 then
        j94
      else
      j95 true) fun (j74 : Int32 → Option Hp) =>
    if (gI h2 8 0 6) ≤ (gI h2 8 0 7) then
      j74 0
    else
    grd (inb (gI h2 8 0 7) 700) <|
    j74 (gA h2 8 0 0 (gI h2 8 0 7).toNatClampNeg)) fun (j50 : Option Hp) =>
  if (gI h2 8 0 9) = 60 then
    j50
  else
  if (gI h2 8 0 9) = 62 then
    j50
  else
  if ¬ (gI h2 8 0 9) = 61 then
    jn (fun (v12 : Bool) =>
      jn (fun (v13 : Int32) =>
        lt_ (sI h2 8 0 8 v13) fun h14 =>
        j290 h14) fun (j287 : Int32 → Option Hp) =>
      if (b2i v12) = 0 then
        j287 6
      else
      j287 4) fun (j275 : Bool → Option Hp) =>
    jn (
      j275 true) fun (j270 : Option Hp) =>
    if (gI h2 8 0 9) = 59 then
      j270
    else
    if (gI h2 8 0 9) = 40 then
      j270
    else
    if (gI h2 8 0 9) = 41 then
      j270
    else
    if (gI h2 8 0 9) = 43 then
      j270
    else
    if (gI h2 8 0 9) = 45 then
      j270
    else
    if (gI h2 8 0 9) = 42 then
      j270
    else
    if (gI h2 8 0 9) = 47 then
      j270
    else
    if ¬ (gI h2 8 0 9) = 37 then
      j275 false
    else
    j270
  else
  j50
def f_X8_token_213 (j281 : Hp → Option Hp) (r213 : Hp → Option Hp) (h9 : Hp) : Option Hp :=
  (f_X8_isDigit h9 (gI h9 8 0 7)).bind fun v10 =>
  if (b2i v10) = 0 then
    j281 h9
  else
  jn (fun (v11 : Int32) =>
    lt_ (sI h9 8 0 9 v11) fun h12 =>
    lt_ (sI h12 8 0 7 ((gI h12 8 0 7) + 1)) fun h13 =>
    r213 h13) fun (j261 : Int32 → Option Hp) =>
  if (gI h9 8 0 9) ≤ 99999 then
    grd (inb (gI h9 8 0 7) 700) <|
    j261 (((10 * (gI h9 8 0 9)) + (gA h9 8 0 0 (gI h9 8 0 7).toNatClampNeg)) - 48)
  else
  j261 (gI h9 8 0 9)
def f_X8_token_90 (N : Nat) (j281 : Hp → Option Hp) (r90 : Hp → Option Hp) (h14 : Hp) : Option Hp :=
  (f_X8_isSmall h14 (gI h14 8 0 7)).bind fun v15 =>
  if (b2i v15) = 0 then
    (f_X8_wordAt N h14 (gI h14 8 0 10) (gI h14 8 0 7)).bind fun v16 =>
    lt_ (sI h14 8 0 9 v16) fun h17 =>
    jn (fun (v18 : Int32) =>
      lt_ (sI h17 8 0 8 v18) fun h19 =>
      if ¬ (gI h19 8 0 8) = 2 then
        j281 h19
      else
      (f_X8_packed N h19 (gI h19 8 0 10) (gI h19 8 0 7)).bind fun v20 =>
      lt_ (sI h19 8 0 9 v20) fun h21 =>
      j281 h21) fun (j162 : Int32 → Option Hp) =>
    if (gI h17 8 0 9) < 0 then
      if ((gI h17 8 0 7) - (gI h17 8 0 10)) ≤ 6 then
        j162 2
      else
      j162 6
    else
    j162 1
  else
  lt_ (sI h14 8 0 7 ((gI h14 8 0 7) + 1)) fun h22 =>
  r90 h22
def f_X8_token_0 (N : Nat) (r0 : Hp → Option Hp) (h1 : Hp) : Option Hp :=
  jn (
    lt_ (sI h1 8 0 10 (gI h1 8 0 7)) fun h2 =>
    jn (fun (h3 : Hp) =>
      some h3) fun (j281 : Hp → Option Hp) =>
    if ¬ (gI h2 8 0 7) = (gI h2 8 0 6) then
      (f_X8_isSmall h2 (gI h2 8 0 7)).bind fun v4 =>
      if (b2i v4) = 0 then
        (f_X8_isDigit h2 (gI h2 8 0 7)).bind fun v5 =>
        if (b2i v5) = 0 then
          (f_X8_signToken h2).bind fun h6 =>
          j281 h6
        else
        lt_ (sI h2 8 0 8 3) fun h7 =>
        lt_ (sI h7 8 0 9 0) fun h8 =>
        iter (fun _ => none) (f_X8_token_213 j281) N h8
      else
      iter (fun _ => none) (f_X8_token_90 N j281) N h2
    else
    lt_ (sI h2 8 0 8 0) fun h23 =>
    j281 h23) fun (j52 : Option Hp) =>
  if (gI h1 8 0 6) ≤ (gI h1 8 0 7) then
    j52
  else
  grd (inb (gI h1 8 0 7) 700) <|
  jn (
    lt_ (sI h1 8 0 7 ((gI h1 8 0 7) + 1)) fun h24 =>
    r0 h24) fun (j39 : Option Hp) =>
  if (gA h1 8 0 0 (gI h1 8 0 7).toNatClampNeg) = 10 then
    j39
  else
  grd (inb (gI h1 8 0 7) 700) <|
  if ¬ (gA h1 8 0 0 (gI h1 8 0 7).toNatClampNeg) = 32 then
    j52
  else
  j39
def f_X8_token (N : Nat) (h : Hp) : Option Hp :=
  iter (fun _ => none) (f_X8_token_0 N) N h
def f_X8_number (N : Nat) (h : Hp) (p1 : Int32) (p2 : Int32) : Option (Bool × Hp) :=
  if (gI h 8 0 8) = 3 then
    (f_X8_isIn (gI h 8 0 9) p1 p2).bind fun v1 =>
    if ¬ (b2i v1) = 0 then
      lt_ (sI h 8 0 11 (gI h 8 0 9)) fun h2 =>
      (f_X8_token N h2).bind fun h3 =>
      some (true, h3)
    else
    bd2 (f_X8_wrong h 2) fun v5 h4 =>
    some (v5, h4)
  else
  bd2 (f_X8_wrong h 1) fun v7 h6 =>
  some (v7, h6)
def f_X8_find_3 (h : Hp) (p0c : Nat) (p0o : Nat) (p0a : Nat) (p1 : Int32) (p2 : Int32) (p3 : Int32) (r3 : Int32 → Option Int32) (v1 : Int32) : Option Int32 :=
  if p2 ≤ v1 then
    some (-1)
  else
  grd (inb (p1 + v1) (ak p0c p0a).2) <|
  if ¬ (gA h p0c p0o p0a (p1 + v1).toNatClampNeg) = p3 then
    lt_ (v1 + 1) fun v2 =>
    r3 v2
  else
  some v1
def f_X8_find (N : Nat) (h : Hp) (p0c p0o p0a : Nat) (p1 : Int32) (p2 : Int32) (p3 : Int32) : Option Int32 :=
  iter (fun _ => none) (f_X8_find_3 h p0c p0o p0a p1 p2 p3) N 0
def f_X8_bounded (h : Hp) (p1 : Int64) : Option (Int64 × Hp) :=
  jn (fun (v1 : Bool) =>
    lt_ (sZ h 8 0 49 v1) fun h2 =>
    jn (fun (v3 : Int64) =>
      some (v3, h2)) fun (j44 : Int64 → Option (Int64 × Hp)) =>
    if (b2i (gZ h2 8 0 49)) = 0 then
      j44 p1
    else
    j44 ((0 : Int64))) fun (j29 : Bool → Option (Int64 × Hp)) =>
  jn (
    j29 true) fun (j24 : Option (Int64 × Hp)) =>
  if ¬ (b2i (gZ h 8 0 49)) = 0 then
    j24
  else
  if 0 < (lg_cmp p1 (1000000000000 : Int64)) then
    j24
  else
  if 0 ≤ (lg_cmp p1 (-1000000000000 : Int64)) then
    j29 false
  else
  j24
def f_X8_compares (p0 : Int32) (p1 : Int64) (p3 : Int64) : Option Bool :=
  if p0 = 5 then
    jn (fun (v1 : Bool) =>
      some v1) fun (j47 : Bool → Option Bool) =>
    if 0 ≤ (lg_cmp p1 p3) then
      j47 false
    else
    j47 true
  else
  if p0 = 6 then
    jn (fun (v2 : Bool) =>
      some v2) fun (j59 : Bool → Option Bool) =>
    if 0 < (lg_cmp p1 p3) then
      j59 false
    else
    j59 true
  else
  if p0 = 7 then
    jn (fun (v3 : Bool) =>
      some v3) fun (j71 : Bool → Option Bool) =>
    if ¬ (lg_cmp p1 p3) = 0 then
      j71 false
    else
    j71 true
  else
  if p0 = 8 then
    jn (fun (v4 : Bool) =>
      some v4) fun (j83 : Bool → Option Bool) =>
    if (lg_cmp p1 p3) = 0 then
      j83 false
    else
    j83 true
  else
  if p0 = 9 then
    jn (fun (v5 : Bool) =>
      some v5) fun (j95 : Bool → Option Bool) =>
    if (lg_cmp p1 p3) < 0 then
      j95 false
    else
    j95 true
  else
  jn (fun (v6 : Bool) =>
    some v6) fun (j107 : Bool → Option Bool) =>
  if (lg_cmp p1 p3) ≤ 0 then
    j107 false
  else
  j107 true
def f_X8_times (h : Hp) (p1 : Int64) (p3 : Int64) : Option (Int64 × Hp) :=
  jn (fun (v1 : Bool) =>
    jn (fun (v2 : Bool) =>
      lt_ (sZ h 8 0 49 v2) fun h3 =>
      jn (fun (v4 : Int64) =>
        some (v4, h3)) fun (j86 : Int64 → Option (Int64 × Hp)) =>
      if (b2i (gZ h3 8 0 49)) = 0 then
        j86 ((p1 * p3))
      else
      j86 ((0 : Int64))) fun (j69 : Bool → Option (Int64 × Hp)) =>
    jn (
      j69 true) fun (j64 : Option (Int64 × Hp)) =>
    if ¬ (b2i (gZ h 8 0 49)) = 0 then
      j64
    else
    if (b2i v1) = 0 then
      j69 false
    else
    j64) fun (j49 : Bool → Option (Int64 × Hp)) =>
  jn (
    j49 false) fun (j48 : Option (Int64 × Hp)) =>
  if (lg_cmp p1 (0 : Int64)) = 0 then
    j48
  else
  if (lg_cmp p3 (0 : Int64)) = 0 then
    j48
  else
  jn (fun (v5 : Int64) =>
    jn (fun (v6 : Int64) =>
      grd (¬ v6 = 0) <|
      if (lg_cmp v5 ((1000000000000 : Int64) / v6)) ≤ 0 then
        j48
      else
      j49 true) fun (j39 : Int64 → Option (Int64 × Hp)) =>
    if 0 ≤ (lg_cmp p1 (0 : Int64)) then
      j39 p1
    else
    j39 ((-p1))) fun (j24 : Int64 → Option (Int64 × Hp)) =>
  if 0 ≤ (lg_cmp p3 (0 : Int64)) then
    j24 p3
  else
  j24 ((-p3))
def f_X8_valueOf (h : Hp) (p1 : Int32) : Option (Int64 × Hp) :=
  grd (inb p1 128) <|
  if ¬ (gA h 8 0 16 p1.toNatClampNeg) = 0 then
    grd (inb p1 128) <|
    if ¬ (gA h 8 0 16 p1.toNatClampNeg) = 1 then
      grd (inb p1 128) <|
      grd (inb (gA h 8 0 17 p1.toNatClampNeg) 64) <|
      lt_ ((gB h 8 0 22 (gA h 8 0 17 p1.toNatClampNeg).toNatClampNeg)) fun v1 =>
      grd (inb p1 128) <|
      if ¬ (gA h 8 0 16 p1.toNatClampNeg) = 2 then
        grd (inb p1 128) <|
        grd (inb (gA h 8 0 18 p1.toNatClampNeg) 64) <|
        lt_ ((gB h 8 0 22 (gA h 8 0 18 p1.toNatClampNeg).toNatClampNeg)) fun v2 =>
        grd (inb p1 128) <|
        if (gA h 8 0 16 p1.toNatClampNeg) = 3 then
          jn (fun (v3 : Int64) =>
            some (v3, h)) fun (j174 : Int64 → Option (Int64 × Hp)) =>
          jn (
            j174 ((0 : Int64))) fun (j173 : Option (Int64 × Hp)) =>
          if (lg_cmp v1 (0 : Int64)) = 0 then
            j173
          else
          if (lg_cmp v2 (0 : Int64)) = 0 then
            j173
          else
          j174 ((1 : Int64))
        else
        if (gA h 8 0 16 p1.toNatClampNeg) = 4 then
          jn (fun (v4 : Int64) =>
            some (v4, h)) fun (j193 : Int64 → Option (Int64 × Hp)) =>
          jn (
            j193 ((1 : Int64))) fun (j188 : Option (Int64 × Hp)) =>
          if ¬ (lg_cmp v1 (0 : Int64)) = 0 then
            j188
          else
          if (lg_cmp v2 (0 : Int64)) = 0 then
            j193 ((0 : Int64))
          else
          j188
        else
        if (gA h 8 0 16 p1.toNatClampNeg) = 11 then
          bd2 (f_X8_bounded h (v1 + v2)) fun v6 h5 =>
          some (v6, h5)
        else
        if (gA h 8 0 16 p1.toNatClampNeg) = 12 then
          bd2 (f_X8_bounded h (v1 - v2)) fun v8 h7 =>
          some (v8, h7)
        else
        if (gA h 8 0 16 p1.toNatClampNeg) = 13 then
          bd2 (f_X8_times h v1 v2) fun v10 h9 =>
          some (v10, h9)
        else
        if (gA h 8 0 16 p1.toNatClampNeg) = 14 then
          jn (fun (v11 : Bool) =>
            lt_ (sZ h 8 0 49 v11) fun h12 =>
            jn (fun (v13 : Int64) =>
              some (v13, h12)) fun (j258 : Int64 → Option (Int64 × Hp)) =>
            if (b2i (gZ h12 8 0 49)) = 0 then
              grd (¬ v2 = 0) <|
              j258 ((v1 / v2))
            else
            j258 ((0 : Int64))) fun (j240 : Bool → Option (Int64 × Hp)) =>
          jn (
            j240 true) fun (j235 : Option (Int64 × Hp)) =>
          if ¬ (b2i (gZ h 8 0 49)) = 0 then
            j235
          else
          if ¬ (lg_cmp v2 (0 : Int64)) = 0 then
            j240 false
          else
          j235
        else
        grd (inb p1 128) <|
        (f_X8_compares (gA h 8 0 16 p1.toNatClampNeg) v1 v2).bind fun v14 =>
        jn (fun (v15 : Int64) =>
          some (v15, h)) fun (j279 : Int64 → Option (Int64 × Hp)) =>
        if (b2i v14) = 0 then
          j279 ((0 : Int64))
        else
        j279 ((1 : Int64))
      else
      jn (fun (v16 : Int64) =>
        some (v16, h)) fun (j72 : Int64 → Option (Int64 × Hp)) =>
      if ¬ (lg_cmp v1 (0 : Int64)) = 0 then
        j72 ((0 : Int64))
      else
      j72 ((1 : Int64))
    else
    grd (inb p1 128) <|
    grd (inb (gA h 8 0 17 p1.toNatClampNeg) 7) <|
    some ((gB h 8 0 21 (gA h 8 0 17 p1.toNatClampNeg).toNatClampNeg), h)
  else
  grd (inb p1 128) <|
  some (((gA h 8 0 17 p1.toNatClampNeg)).toInt64, h)
def f_X8_layNames (h : Hp) (p1 : Int32) (p2 : Int32) (p3 : Int32) : Option Hp :=
  grd (inb 0 7) <| lt_ (sB h 8 0 21 (0 : Int32).toNatClampNeg (p2).toInt64) fun h1 =>
  jn (fun (v2 : Int64) =>
    grd (inb 1 7) <| lt_ (sB h1 8 0 21 (1 : Int32).toNatClampNeg v2) fun h3 =>
    jn (fun (v4 : Int64) =>
      grd (inb 2 7) <| lt_ (sB h3 8 0 21 (2 : Int32).toNatClampNeg v4) fun h5 =>
      grd (inb p1 2) <|
      grd (inb 3 7) <| lt_ (sB h5 8 0 21 (3 : Int32).toNatClampNeg (((gA h5 8 0 33 p1.toNatClampNeg) - (gA h5 8 0 33 p1.toNatClampNeg) / 24 * 24)).toInt64) fun h6 =>
      grd (inb 4 7) <| lt_ (sB h6 8 0 21 (4 : Int32).toNatClampNeg (0 : Int64)) fun h7 =>
      grd (inb 5 7) <| lt_ (sB h7 8 0 21 (5 : Int32).toNatClampNeg (0 : Int64)) fun h8 =>
      grd (inb 6 7) <| lt_ (sB h8 8 0 21 (6 : Int32).toNatClampNeg (0 : Int64)) fun h9 =>
      some h9) fun (j60 : Int64 → Option Hp) =>
    jn (
      j60 ((0 : Int64))) fun (j49 : Option Hp) =>
    if p3 < 0 then
      j49
    else
    if (b2i (gZ h3 8 0 64)) = 0 then
      grd (inb p3 8) <|
      j60 (((gA h3 8 0 7 p3.toNatClampNeg)).toInt64)
    else
    j49) fun (j32 : Int64 → Option Hp) =>
  if 0 ≤ p3 then
    grd (inb ((4 * p1) + p3) 8) <|
    j32 (((gA h1 8 0 25 ((4 * p1) + p3).toNatClampNeg)).toInt64)
  else
  j32 ((0 : Int64))
def f_X8_layField (h : Hp) (p1 : Int32) (p2 : Int32) : Option Hp :=
  grd (inb p2 12) <|
  (f_X8_layNames h p1 0 (gA h 8 0 9 p2.toNatClampNeg)).bind fun h1 =>
  grd (inb ((6 * p1) + p2) 12) <|
  grd (inb 4 7) <| lt_ (sB h1 8 0 21 (4 : Int32).toNatClampNeg ((gA h1 8 0 30 ((6 * p1) + p2).toNatClampNeg)).toInt64) fun h2 =>
  grd (inb p2 12) <|
  grd (inb 5 7) <| lt_ (sB h2 8 0 21 (5 : Int32).toNatClampNeg ((gA h2 8 0 10 p2.toNatClampNeg)).toInt64) fun h3 =>
  grd (inb p2 12) <|
  grd (inb 6 7) <| lt_ (sB h3 8 0 21 (6 : Int32).toNatClampNeg ((gA h3 8 0 11 p2.toNatClampNeg)).toInt64) fun h4 =>
  some h4
def f_X8_lawOf_12 (p1 : Int32) (r12 : Int32 → Hp → Option (Int64 × Hp)) (v3 : Int32) (h4 : Hp) : Option (Int64 × Hp) :=
  grd (inb p1 8) <|
  if (gA h4 8 0 15 p1.toNatClampNeg) ≤ v3 then
    jn (fun (v5 : Int64) =>
      some (v5, h4)) fun (j63 : Int64 → Option (Int64 × Hp)) =>
    if (b2i (gZ h4 8 0 49)) = 0 then
      grd (inb p1 8) <|
      grd (inb ((gA h4 8 0 15 p1.toNatClampNeg) - 1) 64) <|
      j63 ((gB h4 8 0 22 ((gA h4 8 0 15 p1.toNatClampNeg) - 1).toNatClampNeg))
    else
    j63 ((0 : Int64))
  else
  bd2 (f_X8_valueOf h4 v3) fun v7 h6 =>
  grd (inb v3 64) <| lt_ (sB h6 8 0 22 v3.toNatClampNeg v7) fun h8 =>
  lt_ (v3 + 1) fun v9 =>
  r12 v9 h8
def f_X8_lawOf (N : Nat) (h : Hp) (p1 : Int32) : Option (Int64 × Hp) :=
  lt_ (sZ h 8 0 49 false) fun h1 =>
  grd (inb p1 8) <|
  lt_ ((gA h1 8 0 14 p1.toNatClampNeg)) fun v2 =>
  iter (fun _ _ => none) (f_X8_lawOf_12 p1) N v2 h1
def f_X8_boundLaw (N : Nat) (h : Hp) (p1 : Int32) (p2 : Int32) (p3 : Int32) : Option (Int32 × Hp) :=
  grd (inb p1 8) <|
  if ¬ (b2i (gY h 8 0 13 p1.toNatClampNeg)) = 0 then
    bd2 (f_X8_lawOf N h p1) fun v2 h1 =>
    if (b2i (gZ h1 8 0 49)) = 0 then
      jn (fun (v3 : Int32) =>
        some (v3, h1)) fun (j53 : Int32 → Option (Int32 × Hp)) =>
      if 0 ≤ (lg_cmp v2 (0 : Int64)) then
        if (lg_cmp v2 (p3).toInt64) ≤ 0 then
          j53 (v2).toInt32
        else
        j53 p3
      else
      j53 0
    else
    some (p2, h1)
  else
  some (p2, h)
def f_X8_liesAt (h : Hp) (p1 : Int32) (p2 : Int32) : Option Int32 :=
  jn (fun (v1 : Int32) =>
    some v1) fun (j26 : Int32 → Option Int32) =>
  if ¬ p2 = (-3) then
    grd (inb ((8 * p1) + p2) 16) <|
    j26 (gA h 8 0 23 ((8 * p1) + p2).toNatClampNeg)
  else
  grd (inb p1 2) <|
  j26 (gA h 8 0 31 p1.toNatClampNeg)
def f_X8_loadOf (N : Nat) (h : Hp) (p1 : Int32) (p2 : Int32) (p3 : Int32) : Option (Int32 × Hp) :=
  (f_X8_liesAt h p1 p3).bind fun v1 =>
  (f_X8_layNames h p1 v1 p2).bind fun h2 =>
  grd (inb ((4 * p1) + p2) 8) <|
  jn (fun (v3 : Int32) =>
    lt_ (((5 * (gA h2 8 0 25 ((4 * p1) + p2).toNatClampNeg)) - v3)) fun v4 =>
    jn (fun (v5 : Int32) =>
      bd2 (f_X8_boundLaw N h2 0 v5 99) fun v7 h6 =>
      some (v7, h6)) fun (j57 : Int32 → Option (Int32 × Hp)) =>
    if 0 ≤ v4 then
      j57 v4
    else
    j57 0) fun (j41 : Int32 → Option (Int32 × Hp)) =>
  if (b2i (gZ h2 8 0 64)) = 0 then
    grd (inb p2 8) <|
    j41 (gA h2 8 0 7 p2.toNatClampNeg)
  else
  j41 0
def f_X8_forkOf (N : Nat) (h : Hp) (p1 : Int32) (p2 : Int32) (p3 : Int32) : Option (Int32 × Hp) :=
  (f_X8_liesAt h p1 p3).bind fun v1 =>
  (f_X8_layNames h p1 v1 p2).bind fun h2 =>
  bd2 (f_X8_boundLaw N h2 1 8 99) fun v4 h3 =>
  some (v4, h3)
def f_X8_ebbOf (N : Nat) (h : Hp) (p1 : Int32) (p2 : Int32) : Option (Int32 × Hp) :=
  grd (inb ((8 * p1) + p2) 16) <|
  lt_ ((gA h 8 0 23 ((8 * p1) + p2).toNatClampNeg)) fun v1 =>
  (f_X8_layNames h p1 v1 (-1)).bind fun h2 =>
  bd2 (f_X8_boundLaw N h2 2 (v1 / 2) v1) fun v4 h3 =>
  some (v4, h3)
def f_X8_worthOf (N : Nat) (h : Hp) (p1 : Int32) (p2 : Int32) : Option (Int32 × Hp) :=
  grd (inb p2 12) <|
  grd (inb ((6 * p1) + p2) 12) <|
  lt_ (((gA h 8 0 10 p2.toNatClampNeg) - (gA h 8 0 30 ((6 * p1) + p2).toNatClampNeg))) fun v1 =>
  (f_X8_layField h p1 p2).bind fun h2 =>
  jn (fun (v3 : Int32) =>
    bd2 (f_X8_boundLaw N h2 3 v3 99) fun v5 h4 =>
    some (v5, h4)) fun (j36 : Int32 → Option (Int32 × Hp)) =>
  if 0 ≤ v1 then
    j36 v1
  else
  j36 0
def f_X8_sourceOf_28 (h : Hp) (p1 : Int32) (p2 : Int32) (p3 : Int32) (p4 : Bool) (r28 : Int32 → Int32 → Option Int32) (v1 : Int32) (v2 : Int32) : Option Int32 :=
  if (gI h 8 0 12) ≤ v2 then
    if v1 < 0 then
      jn (fun (v3 : Int32) =>
        some v3) fun (j147 : Int32 → Option Int32) =>
      jn (
        j147 (-2)) fun (j145 : Option Int32) =>
      if ¬ (b2i p4) = 0 then
        j145
      else
      grd (inb p1 2) <|
      if (gA h 8 0 31 p1.toNatClampNeg) ≤ 0 then
        j145
      else
      j147 (-3)
    else
    some v1
  else
  grd (inb ((8 * p1) + v2) 16) <|
  jn (fun (v4 : Int32) =>
    lt_ (v2 + 1) fun v5 =>
    r28 v4 v5) fun (j112 : Int32 → Option Int32) =>
  if (gA h 8 0 23 ((8 * p1) + v2).toNatClampNeg) = 0 then
    j112 v1
  else
  jn (
    jn (
      j112 v2) fun (j108 : Option Int32) =>
    if v1 < 0 then
      j108
    else
    grd (inb ((8 * p1) + v2) 16) <|
    grd (inb ((8 * p1) + v1) 16) <|
    if (gA h 8 0 23 ((8 * p1) + v2).toNatClampNeg) ≤ (gA h 8 0 23 ((8 * p1) + v1).toNatClampNeg) then
      j112 v1
    else
    j108) fun (j76 : Option Int32) =>
  if ¬ p3 = 1 then
    j76
  else
  grd (inb ((8 * p1) + v2) 16) <|
  if (gA h 8 0 24 ((8 * p1) + v2).toNatClampNeg) = p2 then
    j76
  else
  j112 v1
def f_X8_sourceOf (N : Nat) (h : Hp) (p1 : Int32) (p2 : Int32) (p3 : Int32) (p4 : Bool) : Option Int32 :=
  jn (
    iter (fun _ _ => none) (f_X8_sourceOf_28 h p1 p2 p3 p4) N (-1) 0) fun (j22 : Option Int32) =>
  if ¬ p3 = 2 then
    j22
  else
  if ¬ (b2i p4) = 0 then
    j22
  else
  grd (inb p1 2) <|
  if (gA h 8 0 31 p1.toNatClampNeg) ≤ 0 then
    j22
  else
  some (-3)
def f_X8_fieldFor_5 (N : Nat) (p1 : Int32) (p2 : Int32) (r5 : Int32 → Int32 → Hp → Option (Int32 × Hp)) (v1 : Int32) (v2 : Int32) (h3 : Hp) : Option (Int32 × Hp) :=
  if (gI h3 8 0 14) ≤ v2 then
    some (v1, h3)
  else
  grd (inb v2 12) <|
  jn (fun (v4 : Int32) (h5 : Hp) =>
    lt_ (v2 + 1) fun v6 =>
    r5 v4 v6 h5) fun (j48 : Int32 → Hp → Option (Int32 × Hp)) =>
  if ¬ (gA h3 8 0 9 v2.toNatClampNeg) = p2 then
    j48 v1 h3
  else
  jn (fun (h7 : Hp) =>
    j48 v2 h7) fun (j45 : Hp → Option (Int32 × Hp)) =>
  if v1 < 0 then
    j45 h3
  else
  bd2 (f_X8_worthOf N h3 p1 v2) fun v9 h8 =>
  bd2 (f_X8_worthOf N h8 p1 v1) fun v11 h10 =>
  if v9 ≤ v11 then
    j48 v1 h10
  else
  j45 h10
def f_X8_fieldFor (N : Nat) (h : Hp) (p1 : Int32) (p2 : Int32) : Option (Int32 × Hp) :=
  iter (fun _ _ _ => none) (f_X8_fieldFor_5 N p1 p2) N (-1) 0 h
def f_X8_lessAt (h : Hp) (p1 : Int32) (p2 : Int32) (p3 : Int32) : Option Hp :=
  jn (fun (h1 : Hp) =>
    some h1) fun (j34 : Hp → Option Hp) =>
  if ¬ p2 = (-3) then
    grd (inb ((8 * p1) + p2) 16) <|
    grd (inb ((8 * p1) + p2) 16) <| lt_ (sA h 8 0 23 ((8 * p1) + p2).toNatClampNeg ((gA h 8 0 23 ((8 * p1) + p2).toNatClampNeg) - p3)) fun h2 =>
    j34 h2
  else
  grd (inb p1 2) <|
  grd (inb p1 2) <| lt_ (sA h 8 0 31 p1.toNatClampNeg ((gA h 8 0 31 p1.toNatClampNeg) - p3)) fun h3 =>
  j34 h3
def f_X8_carts (N : Nat) (h : Hp) (p1 : Int32) (p2 : Int32) (p3 : Int32) : Option Hp :=
  bd2 (f_X8_fieldFor N h p1 p2) fun v2 h1 =>
  (f_X8_sourceOf N h1 p1 p2 p3 false).bind fun v3 =>
  jn (
    some h1) fun (j30 : Option Hp) =>
  if v2 < 0 then
    j30
  else
  if ¬ v3 = (-2) then
    bd2 (f_X8_loadOf N h1 p1 p2 v3) fun v5 h4 =>
    (f_X8_liesAt h4 p1 v3).bind fun v6 =>
    jn (fun (v7 : Int32) =>
      bd2 (f_X8_worthOf N h4 p1 v2) fun v9 h8 =>
      (f_X8_lessAt h8 p1 v3 v7).bind fun h10 =>
      grd (inb ((6 * p1) + v2) 12) <|
      grd (inb ((6 * p1) + v2) 12) <| lt_ (sA h10 8 0 30 ((6 * p1) + v2).toNatClampNeg ((gA h10 8 0 30 ((6 * p1) + v2).toNatClampNeg) + v7)) fun h11 =>
      grd (inb ((4 * p1) + p2) 8) <|
      grd (inb ((4 * p1) + p2) 8) <| lt_ (sA h11 8 0 28 ((4 * p1) + p2).toNatClampNeg ((gA h11 8 0 28 ((4 * p1) + p2).toNatClampNeg) + (v9 * v7))) fun h12 =>
      some h12) fun (j65 : Int32 → Option Hp) =>
    if v5 ≤ v6 then
      j65 v5
    else
    (f_X8_liesAt h4 p1 v3).bind fun v13 =>
    j65 v13
  else
  j30
def f_X8_forks (N : Nat) (h : Hp) (p1 : Int32) (p2 : Int32) (p3 : Int32) : Option Hp :=
  (f_X8_sourceOf N h p1 p2 p3 true).bind fun v1 =>
  if ¬ v1 = (-2) then
    bd2 (f_X8_forkOf N h p1 p2 v1) fun v3 h2 =>
    grd (inb ((8 * p1) + v1) 16) <|
    jn (fun (v4 : Int32) =>
      (f_X8_lessAt h2 p1 v1 v4).bind fun h5 =>
      grd (inb p1 2) <|
      grd (inb p1 2) <| lt_ (sA h5 8 0 31 p1.toNatClampNeg ((gA h5 8 0 31 p1.toNatClampNeg) + v4)) fun h6 =>
      grd (inb ((4 * p1) + p2) 8) <|
      grd (inb ((4 * p1) + p2) 8) <| lt_ (sA h6 8 0 29 ((4 * p1) + p2).toNatClampNeg ((gA h6 8 0 29 ((4 * p1) + p2).toNatClampNeg) + v4)) fun h7 =>
      some h7) fun (j62 : Int32 → Option Hp) =>
    if v3 ≤ (gA h2 8 0 23 ((8 * p1) + v1).toNatClampNeg) then
      j62 v3
    else
    grd (inb ((8 * p1) + v1) 16) <|
    j62 (gA h2 8 0 23 ((8 * p1) + v1).toNatClampNeg)
  else
  some h
def f_X8_allLies_4 (h : Hp) (p1 : Int32) (r4 : Int32 → Int32 → Option Int32) (v1 : Int32) (v2 : Int32) : Option Int32 :=
  if (gI h 8 0 12) ≤ v2 then
    some v1
  else
  grd (inb ((8 * p1) + v2) 16) <|
  lt_ ((v1 + (gA h 8 0 23 ((8 * p1) + v2).toNatClampNeg))) fun v3 =>
  lt_ (v2 + 1) fun v4 =>
  r4 v3 v4
def f_X8_allLies (N : Nat) (h : Hp) (p1 : Int32) : Option Int32 :=
  iter (fun _ _ => none) (f_X8_allLies_4 h p1) N 0 0
def f_X8_acts (N : Nat) (h : Hp) (p1 : Int32) (p2 : Int32) (p3 : Int32) : Option Hp :=
  grd (inb ((4 * p1) + p2) 8) <|
  lt_ ((gA h 8 0 27 ((4 * p1) + p2).toNatClampNeg)) fun v1 =>
  if ¬ v1 = 3 then
    jn (fun (h2 : Hp) =>
      some h2) fun (j60 : Hp → Option Hp) =>
    jn (
      (f_X8_forks N h p1 p2 p3).bind fun h3 =>
      j60 h3) fun (j43 : Option Hp) =>
    if v1 = 2 then
      j43
    else
    jn (
      (f_X8_carts N h p1 p2 p3).bind fun h4 =>
      j60 h4) fun (j53 : Option Hp) =>
    if ¬ v1 = 0 then
      j53
    else
    if ¬ p3 = 2 then
      j53
    else
    (f_X8_allLies N h p1).bind fun v5 =>
    if v5 ≤ 0 then
      j53
    else
    j43
  else
  some h
def f_X8_goOn_90 (N : Nat) (p1 : Int32) (j139 : Hp → Option Hp) (r90 : Int32 → Hp → Option Hp) (v6 : Int32) (h7 : Hp) : Option Hp :=
  if (gI h7 8 0 12) ≤ v6 then
    j139 h7
  else
  bd2 (f_X8_ebbOf N h7 p1 v6) fun v9 h8 =>
  grd (inb ((8 * p1) + v6) 16) <|
  grd (inb ((8 * p1) + v6) 16) <| lt_ (sA h8 8 0 23 ((8 * p1) + v6).toNatClampNeg ((gA h8 8 0 23 ((8 * p1) + v6).toNatClampNeg) - v9)) fun h10 =>
  grd (inb p1 2) <|
  grd (inb p1 2) <| lt_ (sA h10 8 0 32 p1.toNatClampNeg ((gA h10 8 0 32 p1.toNatClampNeg) + v9)) fun h11 =>
  lt_ (v6 + 1) fun v12 =>
  r90 v12 h11
def f_X8_goOn_2 (N : Nat) (p1 : Int32) (p2 : Int32) (r2 : Int32 → Hp → Option Hp) (v1 : Int32) (h2 : Hp) : Option Hp :=
  if (gI h2 8 0 13) ≤ v1 then
    jn (fun (h3 : Hp) =>
      grd (inb p1 2) <|
      grd (inb p1 2) <| lt_ (sA h3 8 0 33 p1.toNatClampNeg ((gA h3 8 0 33 p1.toNatClampNeg) + 1)) fun h4 =>
      some h4) fun (j139 : Hp → Option Hp) =>
    if ¬ (b2i (gZ h2 8 0 63)) = 0 then
      j139 h2
    else
    grd (inb p1 2) <|
    (f_X8_find N h2 8 0 12 0 (gI h2 8 0 15) ((gA h2 8 0 33 p1.toNatClampNeg) - (gA h2 8 0 33 p1.toNatClampNeg) / 24 * 24)).bind fun v5 =>
    if v5 < 0 then
      j139 h2
    else
    iter (fun _ _ => none) (f_X8_goOn_90 N p1 j139) N 0 h2
  else
  jn (fun (h13 : Hp) =>
    lt_ (v1 + 1) fun v14 =>
    r2 v14 h13) fun (j51 : Hp → Option Hp) =>
  jn (
    if v1 = (gI h2 8 0 66) then
      j51 h2
    else
    (f_X8_acts N h2 p1 v1 p2).bind fun h15 =>
    j51 h15) fun (j36 : Option Hp) =>
  if ¬ (b2i (gZ h2 8 0 65)) = 0 then
    j36
  else
  grd (inb ((4 * p1) + v1) 8) <|
  grd (inb p1 2) <|
  if (gA h2 8 0 33 p1.toNatClampNeg) < (gA h2 8 0 26 ((4 * p1) + v1).toNatClampNeg) then
    j51 h2
  else
  j36
def f_X8_goOn (N : Nat) (h : Hp) (p1 : Int32) (p2 : Int32) : Option Hp :=
  iter (fun _ _ => none) (f_X8_goOn_2 N p1 p2) N 0 h
def f_X8_gains_4 (h : Hp) (p1 : Int32) (r4 : Int32 → Int32 → Option Int32) (v1 : Int32) (v2 : Int32) : Option Int32 :=
  if (gI h 8 0 13) ≤ v2 then
    some v1
  else
  grd (inb ((4 * p1) + v2) 8) <|
  lt_ ((v1 + (gA h 8 0 28 ((4 * p1) + v2).toNatClampNeg))) fun v3 =>
  lt_ (v2 + 1) fun v4 =>
  r4 v3 v4
def f_X8_gains (N : Nat) (h : Hp) (p1 : Int32) : Option Int32 :=
  iter (fun _ _ => none) (f_X8_gains_4 h p1) N 0 0
def f_X8_goTried_2 (N : Nat) (p1 : Int32) (p2 : Int32) (r2 : Int32 → Hp → Option Hp) (v1 : Int32) (h2 : Hp) : Option Hp :=
  if p1 ≤ v1 then
    some h2
  else
  (f_X8_goOn N h2 1 p2).bind fun h3 =>
  lt_ (v1 + 1) fun v4 =>
  r2 v4 h3
def f_X8_goTried (N : Nat) (h : Hp) (p1 : Int32) (p2 : Int32) : Option Hp :=
  iter (fun _ _ => none) (f_X8_goTried_2 N p1 p2) N 0 h
