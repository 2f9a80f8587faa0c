def f_X1_tell (x0 : Nat) (x1 : Int32) (x2 : Int32) (h : Hp) : Option Hp :=
  lt (sI h x0 0 x1) fun h1 =>
  lt (sI h1 x0 1 x2) fun h2 =>
  some h2
def f_X1_strikes (x0 : Nat) (x1 : Int32) (x2 : Int32) (h : Hp) : Option (Int32 × Hp) :=
  if x1 ≤ 0 then
    some (0, h)
  else
    if (h.1 x0 0) ≤ 0 then
      some (0, h)
    else
      if x2 < x1 then
        some (0, h)
      else
        if nz (h.1 x0 0) = true then
        (if (h.1 x0 1) ≤ (jrem (x2 - x1) (h.1 x0 0)) then
          some (0, h)
        else
          some (1, h))
        else none
def F_X1_leftOf_5 (x0 : Nat) (x1 : Int32) (x2 : Int32) (k30 : Int32 → Hp → Option (Int32 × Hp)) (self : Int32 → Int32 → Hp → Option (Int32 × Hp)) (x3 : Int32) (x4 : Int32) (h : Hp) : Option (Int32 × Hp) :=
  if x1 < x4 then
    k30 x3 h
  else
    bnd (f_X1_strikes x0 x2 x4 h) fun v3 h2 =>
    (if v3 = 0 then
      self (x3 + 1) (x4 + 1) h2
    else
      self x3 (x4 + 1) h2)
def f_X1_leftOf (x0 : Nat) (x1 : Int32) (x2 : Int32) (h : Hp) : Option (Int32 × Hp) :=
  itr3 (F_X1_leftOf_5 x0 x1 x2 (fun v6 h5 =>
    some (v6, h5))) N0 0 1 h
def f_X2_want (x1 : Int32) (x2 : Int32) (h : Hp) : Option Hp :=
  if x1 < 0 then
    some h
  else
    if 6 ≤ x1 then
      some h
    else
      if inb x1 6 = true then
      lt (sI h 127 (x1.toNatClampNeg) x2) fun h4 =>
      some h4
      else none
def F_J7_fill_53178_5 (x0 : Nat) (x1 : Int32) (x3 : Int32) (k20 : Hp → Option Hp) (self : Int32 → Hp → Option Hp) (x2 : Int32) (h : Hp) : Option Hp :=
  if x3 ≤ x2 then
    k20 h
  else
    if inb x2 (aln x0) = true then
    lt (sI h x0 (x2.toNatClampNeg) x1) fun h4 =>
    self (x2 + 1) h4
    else none
def f_J7_fill_53178 (x0 : Nat) (x1 : Int32) (h : Hp) : Option Hp :=
  lt (Int32.ofNat (aln x0)) fun v1 =>
  itr2 (F_J7_fill_53178_5 x0 x1 v1 (fun h5 =>
    some h5)) N0 0 h
def f_X2_wantByAll (x1 : Int32) (x2 : Int32) (h : Hp) : Option Hp :=
  bnv (f_J7_fill_53178 127 x2 h) fun h1 =>
  lt (sI h1 127 ((0 : Int32).toNatClampNeg) x1) fun h2 =>
  some h2
def f_X2_wantBeats (x1 : Int32) (h : Hp) : Option Hp :=
  lt (sI h 123 8 x1) fun h1 =>
  some h1
def f_X2_foundRow (h : Hp) : Option (Nat × Hp) :=
  some (128, h)
def F_X11_begin_19 (x2 : Nat) (k49 : Hp → Option Hp) (self : Int32 → Hp → Option Hp) (x3 : Int32) (h : Hp) : Option Hp :=
  if (h.1 123 6) < x3 then
    k49 h
  else
    if inb x3 84 = true then
    lt (sL h 124 (x3.toNatClampNeg) 1099511627776) fun h5 =>
    if inb x3 84 = true then
    lt (sI h5 125 (x3.toNatClampNeg) 0) fun h7 =>
    self (x3 + 1) h7
    else none
    else none
def B_X11_begin_103 (x2 : Nat) (x3 : Int32) (k111 : Hp → Option Hp) (self : Int32 → Hp → Option Hp) (x4 : Int32) (t0 : Int32) (t1 : Int32) (t2 : Int32) (h : Hp) : Option Hp :=
  if inb t2 13 = true then
  lt (sI h 126 (t2.toNatClampNeg) (t1 ||| t0)) fun h18 =>
  self (x4 + 1) h18
  else none
def F_X11_begin_67 (x2 : Nat) (x3 : Int32) (k111 : Hp → Option Hp) (self : Int32 → Hp → Option Hp) (x4 : Int32) (h : Hp) : Option Hp :=
  if (h.1 123 6) < x4 then
    k111 h
  else
    if inb x3 13 = true then
    bnd (f_X1_strikes x2 x4 (x3 + 1) h) fun v15 h14 =>
    (if v15 = 0 then
      B_X11_begin_103 x2 x3 k111 self x4 0 (h.1 126 (x3.toNatClampNeg)) x3 h14
    else
      B_X11_begin_103 x2 x3 k111 self x4 (jshl 1 x4) (h.1 126 (x3.toNatClampNeg)) x3 h14)
    else none
def F_X11_begin_51 (x2 : Nat) (k117 : Hp → Option Hp) (self : Int32 → Hp → Option Hp) (x3 : Int32) (h : Hp) : Option Hp :=
  if 13 ≤ x3 then
    k117 h
  else
    if inb x3 13 = true then
    lt (sI h 126 (x3.toNatClampNeg) 0) fun h11 =>
    itr2 (F_X11_begin_67 x2 x3 (fun h19 =>
      self (x3 + 1) h19)) N0 1 h11
    else none
def f_X11_begin (x1 : Nat) (x2 : Nat) (h : Hp) : Option Hp :=
  lt (sR h 123 5 x1) fun h1 =>
  lt (sI h1 123 6 (jmin (h1.1 x2 0) 5)) fun h2 =>
  itr2 (F_X11_begin_19 x2 (fun h8 =>
    itr2 (F_X11_begin_51 x2 (fun h20 =>
      some h20)) N0 0 h8)) N0 0 h2
def f_X10_anyOf (x0 : Int64) (h : Hp) : Option (Int32 × Hp) :=
  lt (x0 ||| (jlushr x0 32)) fun v1 =>
  lt (v1 ||| (jlushr v1 16)) fun v2 =>
  lt (v2 ||| (jlushr v2 8)) fun v3 =>
  some ((v3.toInt32) &&& 255, h)
def F_X10_stepped_24 (x0 : Nat) (x1 : Int64) (x3 : Int32) (x6 : Int32) (k119 : Int64 → Hp → Option (Int64 × Hp)) (self : Int64 → Int32 → Hp → Option (Int64 × Hp)) (x4 : Int64) (x7 : Int32) (h : Hp) : Option (Int64 × Hp) :=
  if (h.1 x0 0) ≤ x7 then
    k119 x4 h
  else
    if ((jshr x6 x7) &&& 1) = 0 then
      self x4 (x7 + 1) h
    else
      if inb x7 5 = true then
      bnd (f_X10_anyOf (x1 &&& (h.2.1 (x0 + 4) (x7.toNatClampNeg))) h) fun v8 h7 =>
      lt (((x3 * 5) + x7) * 32) fun v9 =>
      if inb (v9 + (v8 &&& 15)) 1280 = true then
      if inb ((v9 + 16) + (jshr v8 4)) 1280 = true then
      lt ((h7.1 (x0 + 10) ((v9 + (v8 &&& 15)).toNatClampNeg)) ||| (h7.1 (x0 + 10) (((v9 + 16) + (jshr v8 4)).toNatClampNeg))) fun v12 =>
      lt (x4 ||| (jlshl (v12.toInt64) (8 * x7))) fun v13 =>
      self v13 (x7 + 1) h7
      else none
      else none
      else none
def f_X10_stepped (x0 : Nat) (x1 : Int64) (x3 : Int32) (h : Hp) : Option (Int64 × Hp) :=
  if (lg_cmp x1 0) = 0 then
    itr3 (F_X10_stepped_24 x0 x1 x3 0 (fun v17 h16 =>
      some (v17, h16))) N0 0 0 h
  else
    if inb x3 8 = true then
    lt (h.1 (x0 + 8) (x3.toNatClampNeg)) fun v3 =>
    itr3 (F_X10_stepped_24 x0 x1 x3 v3 (fun v15 h14 =>
      some (v15, h14))) N0 0 0 h
    else none
def B_X11_beatsFit_83 (x1 : Int32) (x2 : Int32) (x3 : Int32) (x4 : Int32) (k123 : Hp → Option (Int32 × Hp)) (k131 : Hp → Option (Int32 × Hp)) (self : Int32 → Hp → Option (Int32 × Hp)) (x5 : Int32) (t0 : Int32) (t1 : Int32) (h : Hp) : Option (Int32 × Hp) :=
  lt (t1 + t0) fun v11 =>
  if inb ((x4 + 6) + x5) 84 = true then
  lt (sI h 125 (((x4 + 6) + x5).toNatClampNeg) v11) fun h13 =>
  (if (h13.1 123 8) < v11 then
    k123 h13
  else
    if x3 = 0 then
      self (x5 + 1) h13
    else
      if v11 = (h13.1 123 8) then
        self (x5 + 1) h13
      else
        k123 h13)
  else none
def B_X11_beatsFit_53 (x1 : Int32) (x2 : Int32) (x3 : Int32) (x4 : Int32) (k123 : Hp → Option (Int32 × Hp)) (k131 : Hp → Option (Int32 × Hp)) (self : Int32 → Hp → Option (Int32 × Hp)) (x5 : Int32) (t0 : Int32) (h : Hp) : Option (Int32 × Hp) :=
  if inb (x4 + x5) 84 = true then
  (if t0 = 0 then
    lt (h.2.2 123 5) fun r8 =>
    if isO 8 r8 = true then
    if inb x2 8 = true then
    B_X11_beatsFit_83 x1 x2 x3 x4 k123 k131 self x5 (h.1 (r8 + 5) (x2.toNatClampNeg)) (h.1 125 ((x4 + x5).toNatClampNeg)) h
    else none
    else none
  else
    B_X11_beatsFit_83 x1 x2 x3 x4 k123 k131 self x5 0 (h.1 125 ((x4 + x5).toNatClampNeg)) h)
  else none
def F_X11_beatsFit_25 (x1 : Int32) (x2 : Int32) (x3 : Int32) (x4 : Int32) (k123 : Hp → Option (Int32 × Hp)) (k131 : Hp → Option (Int32 × Hp)) (self : Int32 → Hp → Option (Int32 × Hp)) (x5 : Int32) (h : Hp) : Option (Int32 × Hp) :=
  if (h.1 123 6) < x5 then
    k131 h
  else
    if inb x1 13 = true then
    (if ((jshr (h.1 126 (x1.toNatClampNeg)) x5) &&& 1) = 0 then
      B_X11_beatsFit_53 x1 x2 x3 x4 k123 k131 self x5 0 h
    else
      B_X11_beatsFit_53 x1 x2 x3 x4 k123 k131 self x5 1 h)
    else none
def B_X11_beatsFit_15 (x1 : Int32) (x2 : Int32) (t0 : Int32) (h : Hp) : Option (Int32 × Hp) :=
  lt (x1 * 6) fun v2 =>
  itr2 (F_X11_beatsFit_25 x1 x2 t0 v2 (fun h17 =>
    some (0, h17)) (fun h18 =>
    some (1, h18))) N0 1 h
def f_X11_beatsFit (x1 : Int32) (x2 : Int32) (h : Hp) : Option (Int32 × Hp) :=
  if (x1 + 1) = (h.1 123 7) then
    B_X11_beatsFit_15 x1 x2 1 h
  else
    B_X11_beatsFit_15 x1 x2 0 h
def f_J6_bitCount_0f7a4 (x0 : Int32) (h : Hp) : Option (Int32 × Hp) :=
  lt (x0 - ((jushr x0 1) &&& 1431655765)) fun v1 =>
  lt ((v1 &&& 858993459) + ((jushr v1 2) &&& 858993459)) fun v2 =>
  lt ((v2 + (jushr v2 4)) &&& 252645135) fun v3 =>
  lt (v3 + (jushr v3 8)) fun v4 =>
  lt (v4 + (jushr v4 16)) fun v5 =>
  some (v5 &&& 63, h)
def f_X10_meant (x0 : Nat) (x1 : Int64) (h : Hp) : Option (Int32 × Hp) :=
  bnd (f_X10_anyOf (x1 &&& (h.2.1 x0 7)) h) fun v2 h1 =>
  some (v2, h1)
def f_X11_meets (x1 : Int64) (x3 : Int32) (h : Hp) : Option (Int32 × Hp) :=
  lt (h.2.2 123 5) fun r1 =>
  if isO 8 r1 = true then
  bnd (f_X10_meant r1 x1 h) fun v4 h3 =>
  (if x3 = 8 then
    if v4 = 0 then
      some (1, h3)
    else
      some (0, h3)
  else
    if x3 = 10 then
      bnd (f_J6_bitCount_0f7a4 v4 h3) fun v9 h8 =>
      (if v9 = 1 then
        some (1, h8)
      else
        some (0, h8))
    else
      if v4 = (jshl 1 x3) then
        some (1, h3)
      else
        some (0, h3))
  else none
def B_X11_put_179 (x1 : Int32) (x2 : Int32) (x3 : Int32) (x4 : Int32) (k199 : Hp → Option (Int32 × Hp)) (k207 : Hp → Option (Int32 × Hp)) (self : Int32 → Hp → Option (Int32 × Hp)) (x5 : Int32) (x7 : Int64) (h : Hp) : Option (Int32 × Hp) :=
  if x3 = 0 then
    self (x5 + 1) h
  else
    if inb x5 6 = true then
    bnd (f_X11_meets x7 (h.1 127 (x5.toNatClampNeg)) h) fun v25 h24 =>
    (if v25 = 0 then
      k199 h24
    else
      self (x5 + 1) h24)
    else none
def B_X11_put_143 (x1 : Int32) (x2 : Int32) (x3 : Int32) (x4 : Int32) (k199 : Hp → Option (Int32 × Hp)) (k207 : Hp → Option (Int32 × Hp)) (self : Int32 → Hp → Option (Int32 × Hp)) (x5 : Int32) (t0 : Int64) (h : Hp) : Option (Int32 × Hp) :=
  if inb ((x4 + 6) + x5) 84 = true then
  lt (sL h 124 (((x4 + 6) + x5).toNatClampNeg) t0) fun h20 =>
  (if (lg_cmp t0 0) = 0 then
    if inb x5 6 = true then
    (if (h20.1 127 (x5.toNatClampNeg)) = 8 then
      B_X11_put_179 x1 x2 x3 x4 k199 k207 self x5 t0 h20
    else
      k199 h20)
    else none
  else
    B_X11_put_179 x1 x2 x3 x4 k199 k207 self x5 t0 h20)
  else none
def B_X11_put_105 (x1 : Int32) (x2 : Int32) (x3 : Int32) (x4 : Int32) (k199 : Hp → Option (Int32 × Hp)) (k207 : Hp → Option (Int32 × Hp)) (self : Int32 → Hp → Option (Int32 × Hp)) (x5 : Int32) (t0 : Int32) (h : Hp) : Option (Int32 × Hp) :=
  if t0 = 0 then
    lt (h.2.2 123 5) fun r14 =>
    if isO 8 r14 = true then
    if inb (x4 + x5) 84 = true then
    bnd (f_X10_stepped r14 (h.2.1 124 ((x4 + x5).toNatClampNeg)) x2 h) fun v18 h17 =>
    B_X11_put_143 x1 x2 x3 x4 k199 k207 self x5 v18 h17
    else none
    else none
  else
    if inb (x4 + x5) 84 = true then
    B_X11_put_143 x1 x2 x3 x4 k199 k207 self x5 (h.2.1 124 ((x4 + x5).toNatClampNeg)) h
    else none
def F_X11_put_65 (x1 : Int32) (x2 : Int32) (x3 : Int32) (x4 : Int32) (k199 : Hp → Option (Int32 × Hp)) (k207 : Hp → Option (Int32 × Hp)) (self : Int32 → Hp → Option (Int32 × Hp)) (x5 : Int32) (h : Hp) : Option (Int32 × Hp) :=
  if (h.1 123 6) < x5 then
    k207 h
  else
    if inb x5 6 = true then
    (if (h.1 127 (x5.toNatClampNeg)) = 9 then
      self (x5 + 1) h
    else
      if inb x1 13 = true then
      (if ((jshr (h.1 126 (x1.toNatClampNeg)) x5) &&& 1) = 0 then
        B_X11_put_105 x1 x2 x3 x4 k199 k207 self x5 0 h
      else
        B_X11_put_105 x1 x2 x3 x4 k199 k207 self x5 1 h)
      else none)
    else none
def B_X11_put_55 (x1 : Int32) (x2 : Int32) (t0 : Int32) (h : Hp) : Option (Int32 × Hp) :=
  lt (x1 * 6) fun v7 =>
  itr2 (F_X11_put_65 x1 x2 t0 v7 (fun h30 =>
    some (0, h30)) (fun h31 =>
    some (1, h31))) N0 0 h
def B_X11_put_40 (x1 : Int32) (x2 : Int32) (h : Hp) : Option (Int32 × Hp) :=
  if (x1 + 1) = (h.1 123 7) then
    B_X11_put_55 x1 x2 1 h
  else
    B_X11_put_55 x1 x2 0 h
def f_X11_put (x1 : Int32) (x2 : Int32) (h : Hp) : Option (Int32 × Hp) :=
  if x1 < 0 then
    some (0, h)
  else
    if x1 < 13 then
      if inb x1 13 = true then
      lt (sI h 129 (x1.toNatClampNeg) x2) fun h4 =>
      (if (h4.1 123 8) < 0 then
        B_X11_put_40 x1 x2 h4
      else
        bnd (f_X11_beatsFit x1 x2 h4) fun v33 h32 =>
        (if v33 = 0 then
          some (0, h32)
        else
          B_X11_put_40 x1 x2 h32))
      else none
    else
      some (0, h)
def F_X2_seek_15 (rec : Int32 → Hp → Option (Int32 × Hp)) (x1 : Int32) (k48 : Hp → Option (Int32 × Hp)) (k56 : Hp → Option (Int32 × Hp)) (self : Int32 → Hp → Option (Int32 × Hp)) (x2 : Int32) (h : Hp) : Option (Int32 × Hp) :=
  lt (h.2.2 122 2) fun r2 =>
  if isO 8 r2 = true then
  (if (h.1 r2 2) ≤ x2 then
    k56 h
  else
    bnd (f_X11_put x1 x2 h) fun v6 h5 =>
    (if v6 = 0 then
      self (x2 + 1) h5
    else
      bnd (rec (x1 + 1) h5) fun v9 h8 =>
      (if v9 = 0 then
        self (x2 + 1) h8
      else
        k48 h8)))
  else none
def E_X2_seek (rec : Int32 → Hp → Option (Int32 × Hp)) (x1 : Int32) (h : Hp) : Option (Int32 × Hp) :=
  if x1 < (h.1 123 7) then
    itr2 (F_X2_seek_15 rec x1 (fun h11 =>
      some (1, h11)) (fun h12 =>
      some (0, h12))) N0 0 h
  else
    some (1, h)
def f_X2_seek (x1 : Int32) (h : Hp) : Option (Int32 × Hp) := itr2 E_X2_seek 400 x1 h
def F_X2_seekShortest_17 (x3 : Int32) (k40 : Int32 → Hp → Option (Int32 × Hp)) (k61 : Hp → Option (Int32 × Hp)) (self : Int32 → Hp → Option (Int32 × Hp)) (x4 : Int32) (h : Hp) : Option (Int32 × Hp) :=
  if x3 < x4 then
    k61 h
  else
    lt (sI h 123 7 x4) fun h4 =>
    bnd (f_X2_seek 0 h4) fun v6 h5 =>
    (if v6 = 0 then
      self (x4 + 1) h5
    else
      k40 x4 h5)
def f_X2_seekShortest (x1 : Nat) (x2 : Nat) (x3 : Int32) (h : Hp) : Option (Int32 × Hp) :=
  lt (sR h 122 2 x1) fun h1 =>
  bnv (f_X11_begin x1 x2 h1) fun h2 =>
  itr2 (F_X2_seekShortest_17 x3 (fun v9 h8 =>
    lt (sI h8 128 1 v9) fun h10 =>
    some (v9, h10)) (fun h11 =>
    some ((-1), h11))) N0 1 h2
def f_X2_seekShortestBy (x1 : Nat) (x2 : Int32) (x3 : Int32) (x4 : Int32) (h : Hp) : Option (Int32 × Hp) :=
  bnv (f_X1_tell 130 x2 x3 h) fun h1 =>
  bnd (f_X2_seekShortest x1 130 x4 h1) fun v3 h2 =>
  some (v3, h2)
def f_X7_copyFrom (x0 : Nat) (x1 : Nat) (h : Hp) : Option Hp :=
  lt (jmin (h.1 x1 1) (Int32.ofNat (aln (x0 + 1)))) fun v1 =>
  if cpOk 0 0 v1 (aln (x1 + 1)) (aln (x0 + 1)) = true then
  lt (cI h (x1 + 1) ((0 : Int32).toNatClampNeg) (x0 + 1) ((0 : Int32).toNatClampNeg) (v1.toNatClampNeg)) fun h3 =>
  lt (sI h3 x0 1 v1) fun h4 =>
  some h4
  else none
def F_X2_seekCheaper_53 (rec : Int32 → Int32 → Hp → Option Hp) (x1 : Int32) (x2 : Int32) (k100 : Hp → Option Hp) (self : Int32 → Hp → Option Hp) (x3 : Int32) (h : Hp) : Option Hp :=
  lt (h.2.2 122 2) fun r3 =>
  if isO 8 r3 = true then
  (if (h.1 r3 2) ≤ x3 then
    k100 h
  else
    bnd (f_X11_put x1 x3 h) fun v7 h6 =>
    (if v7 = 0 then
      self (x3 + 1) h6
    else
      lt (h6.2.2 122 2) fun r9 =>
      if isO 8 r9 = true then
      if inb x3 8 = true then
      bnv (rec (x1 + 1) (x2 + (h6.1 (r9 + 7) (x3.toNatClampNeg))) h6) fun h12 =>
      self (x3 + 1) h12
      else none
      else none))
  else none
def E_X2_seekCheaper (rec : Int32 → Int32 → Hp → Option Hp) (x1 : Int32) (x2 : Int32) (h : Hp) : Option Hp :=
  if x2 < (h.1 122 4) then
    if x1 < (h.1 123 7) then
      itr2 (F_X2_seekCheaper_53 rec x1 x2 (fun h13 =>
        some h13)) N0 0 h
    else
      lt (sI h 122 4 x2) fun h14 =>
      lt (sI h14 128 1 x1) fun h15 =>
      bnv (f_X7_copyFrom 131 128 h15) fun h16 =>
      some h16
  else
    some h
def f_X2_seekCheaper (x1 : Int32) (x2 : Int32) (h : Hp) : Option Hp := itr3 E_X2_seekCheaper 400 x1 x2 h
def F_X2_seekCheapest_26 (x2 : Int32) (k51 : Hp → Option (Int32 × Hp)) (self : Int32 → Hp → Option (Int32 × Hp)) (x3 : Int32) (h : Hp) : Option (Int32 × Hp) :=
  if x2 < x3 then
    k51 h
  else
    lt (sI h 123 7 x3) fun h5 =>
    bnv (f_X2_seekCheaper 0 0 h5) fun h6 =>
    self (x3 + 1) h6
def f_X2_seekCheapest (x1 : Nat) (x2 : Int32) (h : Hp) : Option (Int32 × Hp) :=
  lt (sR h 122 2 x1) fun h1 =>
  bnv (f_X11_begin x1 (x1 + 2) h1) fun h2 =>
  lt (sI h2 122 4 496) fun h3 =>
  itr2 (F_X2_seekCheapest_26 x2 (fun h7 =>
    if (h7.1 122 4) = 496 then
      some ((-1), h7)
    else
      some (h7.1 122 4, h7))) N0 1 h3
def F_X11_agreed_4 (x1 : Int32) (k62 : Hp → Option (Int32 × Hp)) (k73 : Int32 → Hp → Option (Int32 × Hp)) (self : Int32 → Int32 → Hp → Option (Int32 × Hp)) (x2 : Int32) (x3 : Int32) (h : Hp) : Option (Int32 × Hp) :=
  if (h.1 123 6) < x3 then
    k73 x2 h
  else
    if inb x3 6 = true then
    (if (h.1 127 (x3.toNatClampNeg)) = 9 then
      self x2 (x3 + 1) h
    else
      lt (h.2.2 123 5) fun r4 =>
      if isO 8 r4 = true then
      if inb ((x1 * 6) + x3) 84 = true then
      bnd (f_X10_meant r4 (h.2.1 124 (((x1 * 6) + x3).toNatClampNeg)) h) fun v8 h7 =>
      bnd (f_J6_bitCount_0f7a4 v8 h7) fun v10 h9 =>
      (if v10 = 1 then
        if x2 = 0 then
          self v8 (x3 + 1) h9
        else
          if x2 = v8 then
            self v8 (x3 + 1) h9
          else
            k62 h9
      else
        k62 h9)
      else none
      else none)
    else none
def f_X11_agreed (x1 : Int32) (h : Hp) : Option (Int32 × Hp) :=
  itr3 (F_X11_agreed_4 x1 (fun h14 =>
    some (0, h14)) (fun v16 h15 =>
    some (v16, h15))) N0 0 0 h
def F_X2_collect_19 (rec : Int32 → Int32 → Hp → Option (Int32 × Hp)) (x1 : Int32) (x2 : Int32) (k61 : Int32 → Hp → Option (Int32 × Hp)) (self : Int32 → Int32 → Hp → Option (Int32 × Hp)) (x3 : Int32) (x4 : Int32) (h : Hp) : Option (Int32 × Hp) :=
  lt (h.2.2 122 2) fun r4 =>
  if isO 8 r4 = true then
  (if (h.1 r4 2) ≤ x4 then
    k61 x3 h
  else
    bnd (f_X11_put x1 x4 h) fun v8 h7 =>
    (if v8 = 0 then
      self x3 (x4 + 1) h7
    else
      bnd (rec (x1 + 1) x2 h7) fun v11 h10 =>
      lt (x3 ||| v11) fun v12 =>
      self v12 (x4 + 1) h10))
  else none
def E_X2_collect (rec : Int32 → Int32 → Hp → Option (Int32 × Hp)) (x1 : Int32) (x2 : Int32) (h : Hp) : Option (Int32 × Hp) :=
  bnd (f_X11_agreed x1 h) fun v2 h1 =>
  (if x1 < x2 then
    itr3 (F_X2_collect_19 rec x1 x2 (fun v14 h13 =>
      some (v14, h13))) N0 v2 0 h1
  else
    some (v2, h1))
def f_X2_collect (x1 : Int32) (x2 : Int32) (h : Hp) : Option (Int32 × Hp) := itr3 E_X2_collect 400 x1 x2 h
def f_X2_collectSafe (x1 : Nat) (x2 : Int32) (h : Hp) : Option (Int32 × Hp) :=
  lt (sR h 122 2 x1) fun h1 =>
  bnv (f_X2_wantByAll 9 10 h1) fun h2 =>
  bnv (f_X11_begin x1 (x1 + 2) h2) fun h3 =>
  lt (sI h3 123 7 (-1)) fun h4 =>
  bnd (f_X2_collect 0 x2 h4) fun v6 h5 =>
  some (v6, h5)
def f_X7_atOrNone (x0 : Nat) (x1 : Int32) (h : Hp) : Option (Int32 × Hp) :=
  if x1 < 0 then
    some ((-1), h)
  else
    if (h.1 x0 1) ≤ x1 then
      some ((-1), h)
    else
      if inb x1 (aln (x0 + 1)) = true then
      some (h.1 (x0 + 1) (x1.toNatClampNeg), h)
      else none
def B_X2_seekWithIdle_148 (rec : Int32 → Int32 → Hp → Option (Int32 × Hp)) (x1 : Int32) (x2 : Int32) (x3 : Int32) (x4 : Int32) (k154 : Hp → Option (Int32 × Hp)) (k162 : Hp → Option (Int32 × Hp)) (self : Int32 → Hp → Option (Int32 × Hp)) (x5 : Int32) (t0 : Int32) (t1 : Int32) (h : Hp) : Option (Int32 × Hp) :=
  bnd (rec t1 t0 h) fun v19 h18 =>
  (if v19 = 0 then
    self (x5 + 1) h18
  else
    k154 h18)
def B_X2_seekWithIdle_111 (rec : Int32 → Int32 → Hp → Option (Int32 × Hp)) (x1 : Int32) (x2 : Int32) (x3 : Int32) (x4 : Int32) (k154 : Hp → Option (Int32 × Hp)) (k162 : Hp → Option (Int32 × Hp)) (self : Int32 → Hp → Option (Int32 × Hp)) (x5 : Int32) (t0 : Int32) (h : Hp) : Option (Int32 × Hp) :=
  if t0 = 0 then
    self (x5 + 1) h
  else
    bnd (f_X11_put x1 x5 h) fun v15 h14 =>
    (if v15 = 0 then
      self (x5 + 1) h14
    else
      if x5 = x3 then
        B_X2_seekWithIdle_148 rec x1 x2 x3 x4 k154 k162 self x5 (x2 + 1) (x1 + 1) h14
      else
        B_X2_seekWithIdle_148 rec x1 x2 x3 x4 k154 k162 self x5 x2 (x1 + 1) h14)
def F_X2_seekWithIdle_68 (rec : Int32 → Int32 → Hp → Option (Int32 × Hp)) (x1 : Int32) (x2 : Int32) (x3 : Int32) (x4 : Int32) (k154 : Hp → Option (Int32 × Hp)) (k162 : Hp → Option (Int32 × Hp)) (self : Int32 → Hp → Option (Int32 × Hp)) (x5 : Int32) (h : Hp) : Option (Int32 × Hp) :=
  lt (h.2.2 122 2) fun r9 =>
  if isO 8 r9 = true then
  (if (h.1 r9 2) ≤ x5 then
    k162 h
  else
    if x5 = x3 then
      B_X2_seekWithIdle_111 rec x1 x2 x3 x4 k154 k162 self x5 1 h
    else
      if x4 = 0 then
        B_X2_seekWithIdle_111 rec x1 x2 x3 x4 k154 k162 self x5 0 h
      else
        lt (h.2.2 122 2) fun r22 =>
        if isO 8 r22 = true then
        (if ((jshr (h.1 r22 11) x5) &&& 1) = 0 then
          B_X2_seekWithIdle_111 rec x1 x2 x3 x4 k154 k162 self x5 0 h
        else
          B_X2_seekWithIdle_111 rec x1 x2 x3 x4 k154 k162 self x5 1 h)
        else none)
  else none
def E_X2_seekWithIdle (rec : Int32 → Int32 → Hp → Option (Int32 × Hp)) (x1 : Int32) (x2 : Int32) (h : Hp) : Option (Int32 × Hp) :=
  if x1 < (h.1 123 7) then
    lt (h.2.2 122 3) fun r2 =>
    if isO 5 r2 = true then
    bnd (f_X7_atOrNone r2 x2 h) fun v5 h4 =>
    lt (h4.2.2 122 3) fun r6 =>
    if isO 5 r6 = true then
    (if ((h4.1 123 7) - x1) ≤ ((h4.1 r6 1) - x2) then
      itr2 (F_X2_seekWithIdle_68 rec x1 x2 v5 0 (fun h25 =>
        some (1, h25)) (fun h26 =>
        some (0, h26))) N0 0 h4
    else
      itr2 (F_X2_seekWithIdle_68 rec x1 x2 v5 1 (fun h27 =>
        some (1, h27)) (fun h28 =>
        some (0, h28))) N0 0 h4)
    else none
    else none
  else
    bnd (f_X11_agreed x1 h) fun v30 h29 =>
    (if v30 = 0 then
      some (0, h29)
    else
      some (1, h29))
def f_X2_seekWithIdle (x1 : Int32) (x2 : Int32) (h : Hp) : Option (Int32 × Hp) := itr3 E_X2_seekWithIdle 400 x1 x2 h
def F_X2_seekMended_32 (x2 : Nat) (k59 : Int32 → Hp → Option (Int32 × Hp)) (k84 : Hp → Option (Int32 × Hp)) (self : Int32 → Hp → Option (Int32 × Hp)) (x3 : Int32) (h : Hp) : Option (Int32 × Hp) :=
  if 3 < x3 then
    k84 h
  else
    lt (sI h 123 7 ((h.1 x2 1) + x3)) fun h6 =>
    bnd (f_X2_seekWithIdle 0 0 h6) fun v8 h7 =>
    (if v8 = 0 then
      self (x3 + 1) h7
    else
      k59 x3 h7)
def f_X2_seekMended (x1 : Nat) (x2 : Nat) (h : Hp) : Option (Int32 × Hp) :=
  lt (sR h 122 2 x1) fun h1 =>
  lt (sR h1 122 3 x2) fun h2 =>
  bnv (f_X2_wantByAll 10 10 h2) fun h3 =>
  bnv (f_X11_begin x1 (x1 + 2) h3) fun h4 =>
  itr2 (F_X2_seekMended_32 x2 (fun v11 h10 =>
    lt (sI h10 128 1 (h10.1 123 7)) fun h12 =>
    some (v11, h12)) (fun h13 =>
    some ((-1), h13))) N0 0 h4
def f_X7_put (x0 : Nat) (x1 : Int32) (h : Hp) : Option Hp :=
  if (Int32.ofNat (aln (x0 + 1))) ≤ (h.1 x0 1) then
    some h
  else
    if inb (h.1 x0 1) (aln (x0 + 1)) = true then
    lt (sI h (x0 + 1) ((h.1 x0 1).toNatClampNeg) x1) fun h3 =>
    lt (sI h3 x0 1 ((h3.1 x0 1) + 1)) fun h4 =>
    some h4
    else none
def F_X3_strike_10 (x1 : Nat) (x2 : Int32) (k60 : Hp → Option (Nat × Hp)) (self : Int32 → Hp → Option (Nat × Hp)) (x3 : Int32) (h : Hp) : Option (Nat × Hp) :=
  if (h.1 (x1 + 12) 1) ≤ x3 then
    k60 h
  else
    bnd (f_X1_strikes (x1 + 1 + 2) x2 (x3 + 1) h) fun v4 h3 =>
    (if v4 = 0 then
      if inb x3 (aln (x1 + 12 + 1)) = true then
      bnv (f_X7_put 114 (h3.1 (x1 + 12 + 1) (x3.toNatClampNeg)) h3) fun h7 =>
      self (x3 + 1) h7
      else none
    else
      self (x3 + 1) h3)
def f_X3_strike (x1 : Nat) (x2 : Int32) (h : Hp) : Option (Nat × Hp) :=
  lt (sI h 114 1 0) fun h1 =>
  itr2 (F_X3_strike_10 x1 x2 (fun h8 =>
    some (114, h8))) N0 0 h1
def F_X3_meansBy_8 (x1 : Nat) (x2 : Nat) (x3 : Int32) (k53 : Int64 → Hp → Option (Int32 × Hp)) (self : Int64 → Int32 → Hp → Option (Int32 × Hp)) (x4 : Int64) (x6 : Int32) (h : Hp) : Option (Int32 × Hp) :=
  if (h.1 x2 1) ≤ x6 then
    k53 x4 h
  else
    bnd (f_X1_strikes (x1 + 2) x3 (x6 + 1) h) fun v3 h2 =>
    (if v3 = 0 then
      if inb x6 (aln (x2 + 1)) = true then
      bnd (f_X10_stepped x1 x4 (h2.1 (x2 + 1) (x6.toNatClampNeg)) h2) fun v7 h6 =>
      self v7 (x6 + 1) h6
      else none
    else
      self x4 (x6 + 1) h2)
def f_X3_meansBy (x1 : Nat) (x2 : Nat) (x3 : Int32) (h : Hp) : Option (Int32 × Hp) :=
  itr3 (F_X3_meansBy_8 x1 x2 x3 (fun v9 h8 =>
    bnd (f_X10_meant x1 v9 h8) fun v11 h10 =>
    some (v11, h10))) N0 1099511627776 0 h
def F_X3_turnsOf_14 (x1 : Nat) (x2 : Nat) (x3 : Int32) (k53 : Int32 → Hp → Option (Int32 × Hp)) (self : Int32 → Int32 → Hp → Option (Int32 × Hp)) (x4 : Int32) (x5 : Int32) (h : Hp) : Option (Int32 × Hp) :=
  if (h.1 (x1 + 2) 0) < x5 then
    k53 x4 h
  else
    bnd (f_X3_meansBy x1 x2 x5 h) fun v5 h4 =>
    (if v5 = x3 then
      self x4 (x5 + 1) h4
    else
      lt (x4 ||| (jshl 1 x5)) fun v7 =>
      self v7 (x5 + 1) h4)
def f_X3_turnsOf (x1 : Nat) (x2 : Nat) (h : Hp) : Option (Int32 × Hp) :=
  bnd (f_X3_meansBy x1 x2 0 h) fun v2 h1 =>
  itr3 (F_X3_turnsOf_14 x1 x2 v2 (fun v9 h8 =>
    some (v9, h8))) N0 0 1 h1
def F_X3_meanTheSame_3 (x1 : Nat) (x2 : Nat) (x3 : Nat) (k34 : Hp → Option (Int32 × Hp)) (k42 : Hp → Option (Int32 × Hp)) (self : Int32 → Hp → Option (Int32 × Hp)) (x4 : Int32) (h : Hp) : Option (Int32 × Hp) :=
  if (h.1 (x1 + 2) 0) < x4 then
    k42 h
  else
    bnd (f_X3_meansBy x1 x2 x4 h) fun v3 h2 =>
    bnd (f_X3_meansBy x1 x3 x4 h2) fun v5 h4 =>
    (if v3 = v5 then
      self (x4 + 1) h4
    else
      k34 h4)
def f_X3_meanTheSame (x1 : Nat) (x2 : Nat) (x3 : Nat) (h : Hp) : Option (Int32 × Hp) :=
  itr2 (F_X3_meanTheSame_3 x1 x2 x3 (fun h7 =>
    some (0, h7)) (fun h8 =>
    some (1, h8))) N0 0 h
def F_X3_beatsBy_6 (x1 : Nat) (x2 : Nat) (x3 : Int32) (k53 : Int32 → Hp → Option (Int32 × Hp)) (self : Int32 → Int32 → Hp → Option (Int32 × Hp)) (x4 : Int32) (x5 : Int32) (h : Hp) : Option (Int32 × Hp) :=
  if (h.1 x2 1) ≤ x5 then
    k53 x4 h
  else
    bnd (f_X1_strikes (x1 + 2) x3 (x5 + 1) h) fun v3 h2 =>
    (if v3 = 0 then
      if inb x5 (aln (x2 + 1)) = true then
      if inb (h2.1 (x2 + 1) (x5.toNatClampNeg)) 8 = true then
      lt (x4 + (h2.1 (x1 + 5) ((h2.1 (x2 + 1) (x5.toNatClampNeg)).toNatClampNeg))) fun v7 =>
      self v7 (x5 + 1) h2
      else none
      else none
    else
      self x4 (x5 + 1) h2)
def f_X3_beatsBy (x1 : Nat) (x2 : Nat) (x3 : Int32) (h : Hp) : Option (Int32 × Hp) :=
  itr3 (F_X3_beatsBy_6 x1 x2 x3 (fun v9 h8 =>
    some (v9, h8))) N0 0 0 h
def F_J7_fill_d0a16_6 (x0 : Nat) (x1 : Int64) (x4 : Int32) (k22 : Hp → Option Hp) (self : Int32 → Hp → Option Hp) (x3 : Int32) (h : Hp) : Option Hp :=
  if x4 ≤ x3 then
    k22 h
  else
    if inb x3 (aln x0) = true then
    lt (sL h x0 (x3.toNatClampNeg) x1) fun h4 =>
    self (x3 + 1) h4
    else none
def f_J7_fill_d0a16 (x0 : Nat) (x1 : Int64) (h : Hp) : Option Hp :=
  lt (Int32.ofNat (aln x0)) fun v1 =>
  itr2 (F_J7_fill_d0a16_6 x0 x1 v1 (fun h5 =>
    some h5)) N0 0 h
def f_X10_mayEnd (x0 : Nat) (x1 : Int32) (h : Hp) : Option (Int32 × Hp) :=
  if (lg_cmp ((jlushr (h.2.1 x0 7) (8 * x1)) &&& 1) 0) = 0 then
    some (0, h)
  else
    some (1, h)
def f_X10_mayFollow (x0 : Nat) (x1 : Int32) (x2 : Int32) (h : Hp) : Option (Int32 × Hp) :=
  if inb x2 5 = true then
  (if (lg_cmp ((jlushr (h.2.1 (x0 + 4) (x2.toNatClampNeg)) (8 * x1)) &&& 1) 0) = 0 then
    some (0, h)
  else
    some (1, h))
  else none
def f_X10_readsAs (x0 : Nat) (x1 : Int32) (x2 : Int32) (h : Hp) : Option (Int32 × Hp) :=
  if inb x1 8 = true then
  (if ((jshr (h.1 (x0 + 8) (x1.toNatClampNeg)) x2) &&& 1) = 0 then
    some (0, h)
  else
    some (1, h))
  else none
def B_X3_countWith_64 (x1 : Nat) (x2 : Int32) (x3 : Int32) (k72 : Hp → Option Hp) (self : Int32 → Hp → Option Hp) (x4 : Int32) (t0 : Int64) (t1 : Int64) (t2 : Int32) (h : Hp) : Option Hp :=
  if inb t2 6 = true then
  lt (sL h 117 (t2.toNatClampNeg) (t1 + t0)) fun h12 =>
  self (x4 + 1) h12
  else none
def F_X3_countWith_21 (x1 : Nat) (x2 : Int32) (x3 : Int32) (k72 : Hp → Option Hp) (self : Int32 → Hp → Option Hp) (x4 : Int32) (h : Hp) : Option Hp :=
  if 5 < x4 then
    k72 h
  else
    bnd (f_X10_readsAs x1 x2 x3 h) fun v5 h4 =>
    (if v5 = 0 then
      k72 h4
    else
      if inb x3 6 = true then
      bnd (f_X10_mayFollow x1 x4 x3 h4) fun v9 h8 =>
      (if v9 = 0 then
        B_X3_countWith_64 x1 x2 x3 k72 self x4 0 (h4.2.1 117 (x3.toNatClampNeg)) x3 h8
      else
        if inb x4 6 = true then
        B_X3_countWith_64 x1 x2 x3 k72 self x4 (h8.2.1 116 (x4.toNatClampNeg)) (h4.2.1 117 (x3.toNatClampNeg)) x3 h8
        else none)
      else none)
def F_X3_countWith_10 (x1 : Nat) (x2 : Int32) (k78 : Hp → Option Hp) (self : Int32 → Hp → Option Hp) (x3 : Int32) (h : Hp) : Option Hp :=
  if (h.1 x1 0) ≤ x3 then
    k78 h
  else
    itr2 (F_X3_countWith_21 x1 x2 x3 (fun h14 =>
      self (x3 + 1) h14)) N0 0 h
def f_X3_countWith (x1 : Nat) (x2 : Int32) (h : Hp) : Option Hp :=
  bnv (f_J7_fill_d0a16 117 0 h) fun h1 =>
  itr2 (F_X3_countWith_10 x1 x2 (fun h15 =>
    if cpOk 0 0 6 6 6 = true then
    lt (cL h15 117 ((0 : Int32).toNatClampNeg) 116 ((0 : Int32).toNatClampNeg) ((6 : Int32).toNatClampNeg)) fun h17 =>
    some h17
    else none)) N0 0 h1
def F_X3_countReadings_17 (x1 : Nat) (x2 : Nat) (k42 : Hp → Option (Int64 × Hp)) (self : Int32 → Hp → Option (Int64 × Hp)) (x3 : Int32) (h : Hp) : Option (Int64 × Hp) :=
  if (h.1 x2 1) ≤ x3 then
    k42 h
  else
    if inb x3 (aln (x2 + 1)) = true then
    bnv (f_X3_countWith x1 (h.1 (x2 + 1) (x3.toNatClampNeg)) h) fun h5 =>
    self (x3 + 1) h5
    else none
def F_X3_countReadings_47 (x1 : Nat) (k85 : Int64 → Hp → Option (Int64 × Hp)) (self : Int64 → Int32 → Hp → Option (Int64 × Hp)) (x3 : Int64) (x5 : Int32) (h : Hp) : Option (Int64 × Hp) :=
  if (h.1 x1 0) ≤ x5 then
    k85 x3 h
  else
    bnd (f_X10_mayEnd x1 x5 h) fun v9 h8 =>
    (if v9 = 0 then
      self (x3 + 0) (x5 + 1) h8
    else
      if inb x5 6 = true then
      lt (x3 + (h8.2.1 116 (x5.toNatClampNeg))) fun v12 =>
      self v12 (x5 + 1) h8
      else none)
def f_X3_countReadings (x1 : Nat) (x2 : Nat) (h : Hp) : Option (Int64 × Hp) :=
  bnv (f_J7_fill_d0a16 116 0 h) fun h1 =>
  lt (sL h1 116 ((5 : Int32).toNatClampNeg) 1) fun h2 =>
  itr2 (F_X3_countReadings_17 x1 x2 (fun h6 =>
    itr3 (F_X3_countReadings_47 x1 (fun v14 h13 =>
      some (v14, h13))) N0 0 0 h6)) N0 0 h2
def F_X3_firstBehind_2 (x0 : Nat) (x1 : Int32) (x2 : Int32) (k27 : Int32 → Hp → Option (Int32 × Hp)) (k35 : Hp → Option (Int32 × Hp)) (self : Int32 → Hp → Option (Int32 × Hp)) (x3 : Int32) (h : Hp) : Option (Int32 × Hp) :=
  if (h.1 x0 0) ≤ x3 then
    k35 h
  else
    if ((jshr x2 x3) &&& 1) = 0 then
      self (x3 + 1) h
    else
      bnd (f_X10_mayFollow x0 x1 x3 h) fun v4 h3 =>
      (if v4 = 0 then
        self (x3 + 1) h3
      else
        k27 x3 h3)
def f_X3_firstBehind (x0 : Nat) (x1 : Int32) (x2 : Int32) (h : Hp) : Option (Int32 × Hp) :=
  itr2 (F_X3_firstBehind_2 x0 x1 x2 (fun v7 h6 =>
    some (v7, h6)) (fun h8 =>
    some ((-1), h8))) N0 0 h
def f_X3_leadsTo (x0 : Nat) (x1 : Int32) (x2 : Int32) (h : Hp) : Option (Int32 × Hp) :=
  bnd (f_X3_firstBehind x0 x1 x2 h) fun v2 h1 =>
  (if v2 < 0 then
    some (0, h1)
  else
    some (1, h1))
def B_X3_readFirst_62 (x1 : Nat) (x2 : Nat) (x3 : Int32) (x4 : Int32) (k105 : Hp → Option (Int32 × Hp)) (self : Int32 → Hp → Option (Int32 × Hp)) (x5 : Int32) (t0 : Int32) (h : Hp) : Option (Int32 × Hp) :=
  if t0 = 0 then
    self (x5 + 1) h
  else
    if inb x4 (aln (x2 + 1)) = true then
    bnd (f_X10_readsAs x1 (h.1 (x2 + 1) (x4.toNatClampNeg)) x5 h) fun v12 h11 =>
    (if v12 = 0 then
      self (x5 + 1) h11
    else
      if inb x4 24 = true then
      if inb x4 24 = true then
      lt (sI h11 118 (x4.toNatClampNeg) ((h11.1 118 (x4.toNatClampNeg)) ||| (jshl 1 x5))) fun h16 =>
      self (x5 + 1) h16
      else none
      else none)
    else none
def F_X3_readFirst_26 (x1 : Nat) (x2 : Nat) (x3 : Int32) (x4 : Int32) (k105 : Hp → Option (Int32 × Hp)) (self : Int32 → Hp → Option (Int32 × Hp)) (x5 : Int32) (h : Hp) : Option (Int32 × Hp) :=
  if (h.1 x1 0) ≤ x5 then
    k105 h
  else
    if x4 = ((h.1 x2 1) - 1) then
      bnd (f_X10_mayEnd x1 x5 h) fun v18 h17 =>
      B_X3_readFirst_62 x1 x2 x3 x4 k105 self x5 v18 h17
    else
      bnd (f_X3_leadsTo x1 x5 x3 h) fun v8 h7 =>
      B_X3_readFirst_62 x1 x2 x3 x4 k105 self x5 v8 h7
def F_X3_readFirst_10 (x1 : Nat) (x2 : Nat) (k119 : Hp → Option (Int32 × Hp)) (self : Int32 → Int32 → Hp → Option (Int32 × Hp)) (x3 : Int32) (x4 : Int32) (h : Hp) : Option (Int32 × Hp) :=
  if x4 < 0 then
    k119 h
  else
    if inb x4 24 = true then
    lt (sI h 118 (x4.toNatClampNeg) 0) fun h4 =>
    itr2 (F_X3_readFirst_26 x1 x2 x3 x4 (fun h19 =>
      if inb x4 24 = true then
      lt (h19.1 118 (x4.toNatClampNeg)) fun v21 =>
      self v21 (x4 + (-1)) h19
      else none)) N0 0 h4
    else none
def F_X3_readFirst_125 (x1 : Nat) (x2 : Nat) (k154 : Hp → Option (Int32 × Hp)) (k171 : Hp → Option (Int32 × Hp)) (self : Int32 → Int32 → Hp → Option (Int32 × Hp)) (x4 : Int32) (x5 : Int32) (h : Hp) : Option (Int32 × Hp) :=
  if (h.1 x2 1) ≤ x5 then
    k171 h
  else
    if inb x5 24 = true then
    bnd (f_X3_firstBehind x1 x4 (h.1 118 (x5.toNatClampNeg)) h) fun v26 h25 =>
    (if 0 ≤ v26 then
      if inb x5 24 = true then
      lt (sI h25 119 (x5.toNatClampNeg) v26) fun h29 =>
      self v26 (x5 + 1) h29
      else none
    else
      k154 h25)
    else none
def f_X3_readFirst (x1 : Nat) (x2 : Nat) (h : Hp) : Option (Int32 × Hp) :=
  lt ((h.1 x2 1) - 1) fun v1 =>
  itr3 (F_X3_readFirst_10 x1 x2 (fun h22 =>
    itr3 (F_X3_readFirst_125 x1 x2 (fun h30 =>
      some (0, h30)) (fun h31 =>
      if (h31.1 x2 1) ≤ 0 then
        some (0, h31)
      else
        some (1, h31))) N0 5 0 h22)) N0 0 v1 h
def f_X3_sortRead (x1 : Int32) (h : Hp) : Option (Int32 × Hp) :=
  if x1 < 0 then
    some ((-1), h)
  else
    if 24 ≤ x1 then
      some ((-1), h)
    else
      if inb x1 24 = true then
      some (h.1 119 (x1.toNatClampNeg), h)
      else none
def f_X9_letterFromLast (x0 : Int32) (x1 : Int32) (h : Hp) : Option (Int32 × Hp) :=
  some ((jushr x0 (5 * x1)) &&& 31, h)
def F_X3_lettersBefore_2 (x1 : Int32) (x2 : Int32) (k43 : Hp → Option (Int32 × Hp)) (k51 : Int32 → Hp → Option (Int32 × Hp)) (self : Int32 → Hp → Option (Int32 × Hp)) (x3 : Int32) (h : Hp) : Option (Int32 × Hp) :=
  if 6 ≤ x3 then
    k51 x3 h
  else
    bnd (f_X9_letterFromLast x2 x3 h) fun v3 h2 =>
    (if v3 = 0 then
      k51 x3 h2
    else
      lt ((x1 - 1) - x3) fun v5 =>
      (if v5 < 0 then
        k43 h2
      else
        if inb v5 144 = true then
        bnd (f_X9_letterFromLast x2 x3 h2) fun v9 h8 =>
        (if (h2.1 120 (v5.toNatClampNeg)) = v9 then
          self (x3 + 1) h8
        else
          k43 h8)
        else none))
def f_X3_lettersBefore (x1 : Int32) (x2 : Int32) (h : Hp) : Option (Int32 × Hp) :=
  itr2 (F_X3_lettersBefore_2 x1 x2 (fun h11 =>
    some (0, h11)) (fun v13 h12 =>
    some (v13, h12))) N0 0 h
def B_X3_strikeLetters_66 (x1 : Nat) (x2 : Nat) (x3 : Int32) (x5 : Int32) (x6 : Int32) (k114 : Int32 → Hp → Option Hp) (self : Int32 → Int32 → Hp → Option Hp) (x7 : Int32) (x8 : Int32) (t0 : Int32) (t1 : Int32) (h : Hp) : Option Hp :=
  lt (t1 + t0) fun v10 =>
  (if x8 = 0 then
    self v10 (x7 + (-1)) h
  else
    bnd (f_X1_strikes (x1 + 2) x3 v10 h) fun v13 h12 =>
    (if v13 = 0 then
      if inb (h12.1 113 6) 144 = true then
      lt (sI h12 120 ((h12.1 113 6).toNatClampNeg) x8) fun h16 =>
      lt (sI h16 113 6 ((h16.1 113 6) + 1)) fun h17 =>
      self v10 (x7 + (-1)) h17
      else none
    else
      self v10 (x7 + (-1)) h12))
def F_X3_strikeLetters_40 (x1 : Nat) (x2 : Nat) (x3 : Int32) (x5 : Int32) (x6 : Int32) (k114 : Int32 → Hp → Option Hp) (self : Int32 → Int32 → Hp → Option Hp) (x4 : Int32) (x7 : Int32) (h : Hp) : Option Hp :=
  if x7 < 0 then
    k114 x4 h
  else
    bnd (f_X9_letterFromLast x6 x7 h) fun v8 h7 =>
    (if v8 = 0 then
      B_X3_strikeLetters_66 x1 x2 x3 x5 x6 k114 self x7 v8 0 x4 h7
    else
      B_X3_strikeLetters_66 x1 x2 x3 x5 x6 k114 self x7 v8 1 x4 h7)
def F_X3_strikeLetters_11 (x1 : Nat) (x2 : Nat) (x3 : Int32) (k120 : Hp → Option Hp) (self : Int32 → Int32 → Hp → Option Hp) (x4 : Int32) (x5 : Int32) (h : Hp) : Option Hp :=
  if (h.1 x2 1) ≤ x5 then
    k120 h
  else
    if inb x5 (aln (x2 + 1)) = true then
    if inb (8 + (h.1 (x2 + 1) (x5.toNatClampNeg))) 16 = true then
    lt (h.1 (x1 + 1) ((8 + (h.1 (x2 + 1) (x5.toNatClampNeg))).toNatClampNeg)) fun v5 =>
    itr3 (F_X3_strikeLetters_40 x1 x2 x3 x5 v5 (fun v19 h18 =>
      self v19 (x5 + 1) h18)) N0 x4 5 h
    else none
    else none
def f_X3_strikeLetters (x1 : Nat) (x2 : Nat) (x3 : Int32) (h : Hp) : Option Hp :=
  lt (sI h 113 6 0) fun h1 =>
  itr3 (F_X3_strikeLetters_11 x1 x2 x3 (fun h20 =>
    some h20)) N0 0 0 h1
def F_X3_waysOfLetters_37 (x1 : Nat) (x4 : Int32) (k108 : Hp → Option (Int64 × Hp)) (self : Int32 → Hp → Option (Int64 × Hp)) (x5 : Int32) (h : Hp) : Option (Int64 × Hp) :=
  if (h.1 x1 2) ≤ x5 then
    k108 h
  else
    if inb (8 + x5) 16 = true then
    bnd (f_X3_lettersBefore x4 (h.1 (x1 + 1) ((8 + x5).toNatClampNeg)) h) fun v9 h8 =>
    lt (x4 - v9) fun v10 =>
    (if x4 ≤ v10 then
      self (x5 + 1) h8
    else
      if inb x4 145 = true then
      if inb v10 145 = true then
      if inb x4 145 = true then
      lt (sL h8 121 (x4.toNatClampNeg) (jminL 1000000000000000 ((h8.2.1 121 (x4.toNatClampNeg)) + (h8.2.1 121 (v10.toNatClampNeg))))) fun h15 =>
      self (x5 + 1) h15
      else none
      else none
      else none)
    else none
def F_X3_waysOfLetters_17 (x1 : Nat) (k114 : Hp → Option (Int64 × Hp)) (self : Int32 → Hp → Option (Int64 × Hp)) (x4 : Int32) (h : Hp) : Option (Int64 × Hp) :=
  if (h.1 113 6) < x4 then
    k114 h
  else
    if inb x4 145 = true then
    lt (sL h 121 (x4.toNatClampNeg) 0) fun h5 =>
    itr2 (F_X3_waysOfLetters_37 x1 x4 (fun h16 =>
      self (x4 + 1) h16)) N0 0 h5
    else none
def f_X3_waysOfLetters (x1 : Nat) (x2 : Nat) (x3 : Int32) (h : Hp) : Option (Int64 × Hp) :=
  bnv (f_X3_strikeLetters x1 x2 x3 h) fun h1 =>
  lt (sL h1 121 ((0 : Int32).toNatClampNeg) 1) fun h2 =>
  itr2 (F_X3_waysOfLetters_17 x1 (fun h17 =>
    if inb (h17.1 113 6) 145 = true then
    some (h17.2.1 121 ((h17.1 113 6).toNatClampNeg), h17)
    else none)) N0 1 h2
def F_X4_of_2 (x0 : Int32) (k22 : Int32 → Hp → Option (Nat × Hp)) (k34 : Hp → Option (Nat × Hp)) (self : Int32 → Hp → Option (Nat × Hp)) (x1 : Int32) (h : Hp) : Option (Nat × Hp) :=
  if 16 ≤ x1 then
    k34 h
  else
    if inb x1 16 = true then
    (if (kwC.getD (300 + x1.toNatClampNeg - 300) 0) = x0 then
      k22 x1 h
    else
      self (x1 + 1) h)
    else none
def f_X4_of (x0 : Int32) (h : Hp) : Option (Nat × Hp) :=
  itr2 (F_X4_of_2 x0 (fun v5 h4 =>
    if inb v5 16 = true then
    some (300 + v5.toNatClampNeg, h4)
    else none) (fun h7 =>
    some (0, h7))) N0 0 h
def f_X10_copyFrom (x0 : Nat) (x1 : Nat) (h : Hp) : Option Hp :=
  lt (sI h x0 0 (h.1 x1 0)) fun h1 =>
  lt (sI h1 x0 1 (h1.1 x1 1)) fun h2 =>
  lt (sI h2 x0 2 (h2.1 x1 2)) fun h3 =>
  if cpOk 0 0 16 16 16 = true then
  lt (cI h3 (x1 + 1) ((0 : Int32).toNatClampNeg) (x0 + 1) ((0 : Int32).toNatClampNeg) ((16 : Int32).toNatClampNeg)) fun h5 =>
  bnv (f_X1_tell (x0 + 2) (h5.1 (x1 + 2) 0) (h5.1 (x1 + 2) 1) h5) fun h6 =>
  if cpOk 0 0 6 6 6 = true then
  lt (cI h6 (x1 + 3) ((0 : Int32).toNatClampNeg) (x0 + 3) ((0 : Int32).toNatClampNeg) ((6 : Int32).toNatClampNeg)) fun h8 =>
  if cpOk 0 0 5 5 5 = true then
  lt (cL h8 (x1 + 4) ((0 : Int32).toNatClampNeg) (x0 + 4) ((0 : Int32).toNatClampNeg) ((5 : Int32).toNatClampNeg)) fun h10 =>
  lt (sL h10 x0 7 (h10.2.1 x1 7)) fun h11 =>
  if cpOk 0 0 8 8 8 = true then
  lt (cI h11 (x1 + 5) ((0 : Int32).toNatClampNeg) (x0 + 5) ((0 : Int32).toNatClampNeg) ((8 : Int32).toNatClampNeg)) fun h13 =>
  if cpOk 0 0 8 8 8 = true then
  lt (cI h13 (x1 + 6) ((0 : Int32).toNatClampNeg) (x0 + 6) ((0 : Int32).toNatClampNeg) ((8 : Int32).toNatClampNeg)) fun h15 =>
  if cpOk 0 0 8 8 8 = true then
  lt (cI h15 (x1 + 7) ((0 : Int32).toNatClampNeg) (x0 + 7) ((0 : Int32).toNatClampNeg) ((8 : Int32).toNatClampNeg)) fun h17 =>
  lt (sI h17 x0 11 (h17.1 x1 11)) fun h18 =>
  if cpOk 0 0 8 8 8 = true then
  lt (cI h18 (x1 + 8) ((0 : Int32).toNatClampNeg) (x0 + 8) ((0 : Int32).toNatClampNeg) ((8 : Int32).toNatClampNeg)) fun h20 =>
  if cpOk 0 0 320 320 320 = true then
  lt (cI h20 (x1 + 9) ((0 : Int32).toNatClampNeg) (x0 + 9) ((0 : Int32).toNatClampNeg) ((320 : Int32).toNatClampNeg)) fun h22 =>
  if cpOk 0 0 1280 1280 1280 = true then
  lt (cI h22 (x1 + 10) ((0 : Int32).toNatClampNeg) (x0 + 10) ((0 : Int32).toNatClampNeg) ((1280 : Int32).toNatClampNeg)) fun h24 =>
  some h24
  else none
  else none
  else none
  else none
  else none
  else none
  else none
  else none
  else none
def f_X5_begin (x0 : Nat) (x1 : Nat) (h : Hp) : Option Hp :=
  bnv (f_X10_copyFrom (x0 + 1) x1 h) fun h1 =>
  lt (sI h1 (x0 + 12) 1 0) fun h2 =>
  lt (sI h2 x0 3 0) fun h3 =>
  some h3
def F_X5_copyFrom_32 (x0 : Nat) (x1 : Nat) (k61 : Hp → Option Hp) (self : Int32 → Hp → Option Hp) (x2 : Int32) (h : Hp) : Option Hp :=
  if (h.1 x0 3) ≤ x2 then
    k61 h
  else
    if inb x2 10 = true then
    if inb x2 10 = true then
    bnv (f_X7_copyFrom (x0 + 14 + 1 + 2 * x2.toNatClampNeg) (x1 + 14 + 1 + 2 * x2.toNatClampNeg) h) fun h7 =>
    self (x2 + 1) h7
    else none
    else none
def f_X5_copyFrom (x0 : Nat) (x1 : Nat) (h : Hp) : Option Hp :=
  bnv (f_X10_copyFrom (x0 + 1) (x1 + 1) h) fun h1 =>
  bnv (f_X7_copyFrom (x0 + 12) (x1 + 12) h1) fun h2 =>
  lt (sI h2 x0 3 (h2.1 x1 3)) fun h3 =>
  itr2 (F_X5_copyFrom_32 x0 x1 (fun h8 =>
    some h8)) N0 0 h3
def F_X10_clear_60 (x0 : Nat) (k85 : Hp → Option Hp) (self : Int32 → Hp → Option Hp) (x1 : Int32) (h : Hp) : Option Hp :=
  if 320 ≤ x1 then
    k85 h
  else
    if inb x1 320 = true then
    lt (sI h (x0 + 9) (x1.toNatClampNeg) (jrem x1 8)) fun h12 =>
    self (x1 + 1) h12
    else none
def f_X10_clear (x0 : Nat) (h : Hp) : Option Hp :=
  lt (sI h x0 0 0) fun h1 =>
  lt (sI h1 x0 1 0) fun h2 =>
  lt (sI h2 x0 2 0) fun h3 =>
  bnv (f_X1_tell (x0 + 2) 3 1 h3) fun h4 =>
  bnv (f_J7_fill_53178 (x0 + 3) 1 h4) fun h5 =>
  bnv (f_J7_fill_d0a16 (x0 + 4) 0 h5) fun h6 =>
  lt (sL h6 x0 7 0) fun h7 =>
  lt (sI h7 x0 11 0) fun h8 =>
  bnv (f_J7_fill_53178 (x0 + 8) 0 h8) fun h9 =>
  itr2 (F_X10_clear_60 x0 (fun h13 =>
    some h13)) N0 0 h9
def F_X10_madeOfFour_5 (x0 : Nat) (x1 : Int32) (x2 : Int32) (k40 : Int32 → Hp → Option (Int32 × Hp)) (self : Int32 → Int32 → Hp → Option (Int32 × Hp)) (x3 : Int32) (x4 : Int32) (h : Hp) : Option (Int32 × Hp) :=
  if 4 ≤ x4 then
    k40 x3 h
  else
    if ((jshr x2 x4) &&& 1) = 0 then
      self x3 (x4 + 1) h
    else
      if inb (x1 + x4) 320 = true then
      lt (x3 ||| (jshl 1 (h.1 (x0 + 9) ((x1 + x4).toNatClampNeg)))) fun v4 =>
      self v4 (x4 + 1) h
      else none
def f_X10_madeOfFour (x0 : Nat) (x1 : Int32) (x2 : Int32) (h : Hp) : Option (Int32 × Hp) :=
  itr3 (F_X10_madeOfFour_5 x0 x1 x2 (fun v6 h5 =>
    some (v6, h5))) N0 0 0 h
def F_X10_settle_10 (x0 : Nat) (x1 : Int32) (k51 : Hp → Option Hp) (self : Int32 → Hp → Option Hp) (x2 : Int32) (h : Hp) : Option Hp :=
  if 32 ≤ x2 then
    k51 h
  else
    bnd (f_X10_madeOfFour x0 ((x1 * 8) + ((jshr x2 4) * 4)) (x2 &&& 15) h) fun v4 h3 =>
    if inb ((x1 * 32) + x2) 1280 = true then
    lt (sI h3 (x0 + 10) (((x1 * 32) + x2).toNatClampNeg) v4) fun h6 =>
    self (x2 + 1) h6
    else none
def F_X10_settle_2 (x0 : Nat) (k57 : Hp → Option Hp) (self : Int32 → Hp → Option Hp) (x1 : Int32) (h : Hp) : Option Hp :=
  if 40 ≤ x1 then
    k57 h
  else
    itr2 (F_X10_settle_10 x0 x1 (fun h7 =>
      self (x1 + 1) h7)) N0 0 h
def f_X10_settle (x0 : Nat) (h : Hp) : Option Hp :=
  itr2 (F_X10_settle_2 x0 (fun h8 =>
    some h8)) N0 0 h
def B_X9_isOfWord_12 (x0 : Int32) (h : Hp) : Option (Int32 × Hp) :=
  if x0 < 97 then
    some (0, h)
  else
    if 122 < x0 then
      some (0, h)
    else
      some (1, h)
def f_X9_isOfWord (x0 : Int32) (h : Hp) : Option (Int32 × Hp) :=
  if x0 < 48 then
    B_X9_isOfWord_12 x0 h
  else
    if x0 ≤ 57 then
      some (1, h)
    else
      B_X9_isOfWord_12 x0 h
def B_X9_kindOf_31 (x1 : Int32) (x2 : Int32) (h : Hp) : Option (Int32 × Hp) :=
  if x2 = 0 then
    if 6 < x1 then
      some (4, h)
    else
      some (1, h)
  else
    if x1 = 0 then
      if 2 < x2 then
        some (4, h)
      else
        some (2, h)
    else
      some (4, h)
def f_X9_kindOf (x1 : Int32) (x2 : Int32) (h : Hp) : Option (Int32 × Hp) :=
  if x1 = 0 then
    if x2 = 0 then
      lt (h.2.2 5 0) fun r7 =>
      if isO 5 r7 = true then
      if inb (h.1 5 4) (aln (r7 + 1)) = true then
      (if (h.1 (r7 + 1) ((h.1 5 4).toNatClampNeg)) = 59 then
        some (3, h)
      else
        some (4, h))
      else none
      else none
    else
      B_X9_kindOf_31 x1 x2 h
  else
    B_X9_kindOf_31 x1 x2 h
def f_X9_withLetter (x0 : Int32) (x1 : Int32) (h : Hp) : Option (Int32 × Hp) :=
  some ((jshl x0 5) ||| ((x1 - 97) + 1), h)
def B_X9_advance_69 (x1 : Int32) (k82 : Hp → Option Hp) (self : Hp → Option Hp) (h : Hp) : Option Hp :=
  lt (sI h 5 4 ((h.1 5 4) + 1)) fun h10 =>
  self h10
def F_X9_advance_27 (x1 : Int32) (k82 : Hp → Option Hp) (self : Hp → Option Hp) (h : Hp) : Option Hp :=
  if x1 ≤ (h.1 5 4) then
    k82 h
  else
    lt (h.2.2 5 0) fun r6 =>
    if isO 5 r6 = true then
    if inb (h.1 5 4) (aln (r6 + 1)) = true then
    (if (h.1 (r6 + 1) ((h.1 5 4).toNatClampNeg)) = 32 then
      B_X9_advance_69 x1 k82 self h
    else
      lt (h.2.2 5 0) fun r11 =>
      if isO 5 r11 = true then
      if inb (h.1 5 4) (aln (r11 + 1)) = true then
      (if (h.1 (r11 + 1) ((h.1 5 4).toNatClampNeg)) = 10 then
        B_X9_advance_69 x1 k82 self h
      else
        k82 h)
      else none
      else none)
    else none
    else none
def B_X9_advance_216 (x1 : Int32) (k237 : Int32 → Int32 → Int32 → Hp → Option Hp) (self : Int32 → Int32 → Int32 → Hp → Option Hp) (x3 : Int32) (x4 : Int32) (x5 : Int32) (t0 : Int32) (t1 : Int32) (h : Hp) : Option Hp :=
  lt (t1 + t0) fun v40 =>
  (if x5 = 0 then
    self v40 (x3 + 0) (x4 + 1) h
  else
    self v40 (x3 + 1) (x4 + 1) h)
def B_X9_advance_202 (x1 : Int32) (k237 : Int32 → Int32 → Int32 → Hp → Option Hp) (self : Int32 → Int32 → Int32 → Hp → Option Hp) (x2 : Int32) (x3 : Int32) (x4 : Int32) (x5 : Int32) (t0 : Int32) (h : Hp) : Option Hp :=
  lt (sI h 5 5 t0) fun h38 =>
  (if x5 = 0 then
    B_X9_advance_216 x1 k237 self x3 x4 x5 1 x2 h38
  else
    B_X9_advance_216 x1 k237 self x3 x4 x5 0 x2 h38)
def B_X9_advance_153 (x1 : Int32) (k237 : Int32 → Int32 → Int32 → Hp → Option Hp) (self : Int32 → Int32 → Int32 → Hp → Option Hp) (x2 : Int32) (x3 : Int32) (x4 : Int32) (t0 : Int32) (h : Hp) : Option Hp :=
  if t0 = 0 then
    lt (h.2.2 5 0) fun r33 =>
    if isO 5 r33 = true then
    if inb x4 (aln (r33 + 1)) = true then
    bnd (f_X9_withLetter (h.1 5 5) (h.1 (r33 + 1) (x4.toNatClampNeg)) h) fun v37 h36 =>
    B_X9_advance_202 x1 k237 self x2 x3 x4 t0 v37 h36
    else none
    else none
  else
    lt (h.2.2 5 0) fun r42 =>
    if isO 5 r42 = true then
    if inb x4 (aln (r42 + 1)) = true then
    B_X9_advance_202 x1 k237 self x2 x3 x4 t0 ((((h.1 5 5) * 10) + (h.1 (r42 + 1) (x4.toNatClampNeg))) - 48) h
    else none
    else none
def F_X9_advance_97 (x1 : Int32) (k237 : Int32 → Int32 → Int32 → Hp → Option Hp) (self : Int32 → Int32 → Int32 → Hp → Option Hp) (x2 : Int32) (x3 : Int32) (x4 : Int32) (h : Hp) : Option Hp :=
  if x1 ≤ (h.1 5 4) then
    k237 x2 x3 x4 h
  else
    lt (h.2.2 5 0) fun r19 =>
    if isO 5 r19 = true then
    (if (h.1 r19 1) ≤ x4 then
      k237 x2 x3 x4 h
    else
      lt (h.2.2 5 0) fun r22 =>
      if isO 5 r22 = true then
      if inb x4 (aln (r22 + 1)) = true then
      bnd (f_X9_isOfWord (h.1 (r22 + 1) (x4.toNatClampNeg)) h) fun v26 h25 =>
      (if v26 = 0 then
        k237 x2 x3 x4 h25
      else
        lt (h25.2.2 5 0) fun r28 =>
        if isO 5 r28 = true then
        if inb x4 (aln (r28 + 1)) = true then
        (if 57 < (h25.1 (r28 + 1) (x4.toNatClampNeg)) then
          B_X9_advance_153 x1 k237 self x2 x3 x4 0 h25
        else
          B_X9_advance_153 x1 k237 self x2 x3 x4 1 h25)
        else none
        else none)
      else none
      else none)
    else none
def B_X9_advance_294 (t0 : Nat) (h : Hp) : Option Hp :=
  lt (sR h 5 6 t0) fun h55 =>
  some h55
def B_X9_advance_271 (t0 : Int32) (h : Hp) : Option Hp :=
  lt (sI h 5 3 t0) fun h53 =>
  (if (h53.1 5 3) = 1 then
    bnd (f_X4_of (h53.1 5 5) h53) fun r57 h56 =>
    if isKw r57 = true then
    B_X9_advance_294 r57 h56
    else none
  else
    B_X9_advance_294 0 h53)
def B_X9_advance_237 (x1 : Int32) (x2 : Int32) (x3 : Int32) (x4 : Int32) (h : Hp) : Option Hp :=
  lt (sI h 5 2 (jmax x4 ((h.1 5 4) + 1))) fun h49 =>
  (if (h49.1 5 4) < x1 then
    bnd (f_X9_kindOf x2 x3 h49) fun v52 h51 =>
    B_X9_advance_271 v52 h51
  else
    B_X9_advance_271 0 h49)
def B_X9_advance_82 (x1 : Int32) (h : Hp) : Option Hp :=
  lt (sI h 5 5 0) fun h16 =>
  lt (h16.1 5 4) fun v17 =>
  itr4 (F_X9_advance_97 x1 (fun v46 v47 v48 h45 =>
    B_X9_advance_237 x1 v46 v47 v48 h45)) N0 0 0 v17 h16
def f_X9_advance (h : Hp) : Option Hp :=
  lt (h.2.2 5 0) fun r1 =>
  if isO 5 r1 = true then
  lt (jmin (h.1 r1 1) (h.1 5 1)) fun v3 =>
  lt (sI h 5 4 (jmin (h.1 5 2) v3)) fun h4 =>
  itr1 (F_X9_advance_27 v3 (fun h15 =>
    B_X9_advance_82 v3 h15)) N0 h4
  else none
def f_X9_begin (x1 : Nat) (x2 : Int32) (h : Hp) : Option Hp :=
  lt (sR h 5 0 x1) fun h1 =>
  lt (sI h1 5 1 x2) fun h2 =>
  lt (sI h2 5 2 0) fun h3 =>
  bnv (f_X9_advance h3) fun h4 =>
  some h4
def f_X6_begin (x1 : Nat) (x2 : Nat) (x3 : Int32) (h : Hp) : Option Hp :=
  lt (sR h 4 1 x2) fun h1 =>
  lt (sI h1 4 4 0) fun h2 =>
  lt (sI h2 4 5 0) fun h3 =>
  bnv (f_X9_begin x1 x3 h3) fun h4 =>
  some h4
def f_X6_refuse (x1 : Int32) (h : Hp) : Option (Int32 × Hp) :=
  lt (sI h 4 4 x1) fun h1 =>
  lt (sI h1 4 5 (h1.1 5 4)) fun h2 =>
  some (0, h2)
def B_X6_numberHere_41 (h : Hp) : Option (Int32 × Hp) :=
  bnd (f_X6_refuse 2 h) fun v4 h3 =>
  some ((-1), h3)
def f_X6_numberHere (x1 : Int32) (x2 : Int32) (h : Hp) : Option (Int32 × Hp) :=
  if (h.1 5 3) = 2 then
    if (h.1 5 5) < x1 then
      B_X6_numberHere_41 h
    else
      if (h.1 5 5) ≤ x2 then
        some (h.1 5 5, h)
      else
        B_X6_numberHere_41 h
  else
    bnd (f_X6_refuse 1 h) fun v7 h6 =>
    some ((-1), h6)
def B_X6_readClerk_48 (x1 : Int32) (h : Hp) : Option (Int32 × Hp) :=
  bnv (f_X9_advance h) fun h8 =>
  bnd (f_X6_numberHere 0 9 h8) fun v10 h9 =>
  (if 0 ≤ v10 then
    lt (sI h9 4 3 ((h9.1 4 3) ||| (jshl 1 x1))) fun h12 =>
    lt (h12.2.2 4 1) fun r13 =>
    if isO 8 r13 = true then
    if inb x1 6 = true then
    lt (sI h12 (r13 + 3) (x1.toNatClampNeg) v10) fun h16 =>
    bnv (f_X9_advance h16) fun h17 =>
    some (1, h17)
    else none
    else none
  else
    some (0, h9))
def f_X6_readClerk (h : Hp) : Option (Int32 × Hp) :=
  bnv (f_X9_advance h) fun h1 =>
  lt (h1.2.2 4 1) fun r2 =>
  if isO 8 r2 = true then
  bnd (f_X6_numberHere 1 (h1.1 (r2 + 2) 0) h1) fun v5 h4 =>
  (if v5 < 0 then
    some (0, h4)
  else
    if ((jshr (h4.1 4 3) v5) &&& 1) = 0 then
      B_X6_readClerk_48 v5 h4
    else
      bnd (f_X6_refuse 3 h4) fun v19 h18 =>
      (if v19 = 0 then
        some (0, h18)
      else
        B_X6_readClerk_48 v5 h18))
  else none
def f_X6_readClose (h : Hp) : Option (Int32 × Hp) :=
  if (h.1 5 3) = 3 then
    bnv (f_X9_advance h) fun h2 =>
    some (1, h2)
  else
    bnd (f_X6_refuse 1 h) fun v4 h3 =>
    if isZ v4 = true then
    some (v4, h3)
    else none
def B_X6_readEdict_14 (h : Hp) : Option (Int32 × Hp) :=
  bnd (f_X6_refuse 3 h) fun v3 h2 =>
  if isZ v3 = true then
  some (v3, h2)
  else none
def f_X6_readEdict (h : Hp) : Option (Int32 × Hp) :=
  if (h.1 4 2) = 0 then
    if (h.1 4 3) = 0 then
      bnv (f_X9_advance h) fun h6 =>
      bnd (f_X6_numberHere 2 5 h6) fun v8 h7 =>
      (if 0 ≤ v8 then
        bnv (f_X9_advance h7) fun h10 =>
        bnd (f_X6_numberHere 1 (v8 - 1) h10) fun v12 h11 =>
        (if 0 ≤ v12 then
          lt (h11.2.2 4 1) fun r14 =>
          if isO 8 r14 = true then
          bnv (f_X1_tell (r14 + 2) v8 v12 h11) fun h16 =>
          lt (sI h16 4 2 1) fun h17 =>
          bnv (f_X9_advance h17) fun h18 =>
          some (1, h18)
          else none
        else
          some (0, h11))
      else
        some (0, h7))
    else
      B_X6_readEdict_14 h
  else
    B_X6_readEdict_14 h
def f_X10_turnFollow (x0 : Nat) (x1 : Int32) (x2 : Int32) (h : Hp) : Option Hp :=
  if inb x2 5 = true then
  if inb x2 5 = true then
  lt (sL h (x0 + 4) (x2.toNatClampNeg) ((h.2.1 (x0 + 4) (x2.toNatClampNeg)) ^^^ (jlshl 255 (8 * x1)))) fun h3 =>
  some h3
  else none
  else none
def F_X6_indexOfName_2 (x1 : Int32) (x2 : Int32) (k28 : Int32 → Hp → Option (Int32 × Hp)) (k36 : Hp → Option (Int32 × Hp)) (self : Int32 → Hp → Option (Int32 × Hp)) (x3 : Int32) (h : Hp) : Option (Int32 × Hp) :=
  if x2 ≤ x3 then
    k36 h
  else
    lt (h.2.2 4 1) fun r2 =>
    if isO 8 r2 = true then
    if inb (x1 + x3) 16 = true then
    (if (h.1 (r2 + 1) ((x1 + x3).toNatClampNeg)) = (h.1 5 5) then
      k28 x3 h
    else
      self (x3 + 1) h)
    else none
    else none
def f_X6_indexOfName (x1 : Int32) (x2 : Int32) (h : Hp) : Option (Int32 × Hp) :=
  itr2 (F_X6_indexOfName_2 x1 x2 (fun v7 h6 =>
    some (v7, h6)) (fun h8 =>
    some ((-1), h8))) N0 0 h
def f_X6_isNameHere (h : Hp) : Option (Int32 × Hp) :=
  if (h.1 5 3) = 1 then
    lt (h.2.2 5 6) fun r2 =>
    if isKw r2 = true then
    (if r2 = 0 then
      some (1, h)
    else
      some (0, h))
    else none
  else
    some (0, h)
def f_X6_toldHere (x1 : Int32) (x2 : Int32) (h : Hp) : Option (Int32 × Hp) :=
  bnd (f_X6_isNameHere h) fun v2 h1 =>
  (if v2 = 0 then
    bnd (f_X6_refuse 1 h1) fun v10 h9 =>
    some ((-1), h9)
  else
    bnd (f_X6_indexOfName x1 x2 h1) fun v5 h4 =>
    (if 0 ≤ v5 then
      some (v5, h4)
    else
      bnd (f_X6_refuse 3 h4) fun v8 h7 =>
      some (v5, h7)))
def B_X6_readFollow_72 (x1 : Int32) (x2 : Int32) (h : Hp) : Option (Int32 × Hp) :=
  lt (h.2.2 4 1) fun r18 =>
  if isO 8 r18 = true then
  bnv (f_X10_turnFollow r18 x1 x2 h) fun h20 =>
  bnv (f_X9_advance h20) fun h21 =>
  some (1, h21)
  else none
def f_X6_readFollow (h : Hp) : Option (Int32 × Hp) :=
  bnv (f_X9_advance h) fun h1 =>
  lt (h1.2.2 4 1) fun r2 =>
  if isO 8 r2 = true then
  bnd (f_X6_toldHere 0 (h1.1 r2 0) h1) fun v5 h4 =>
  (if 0 ≤ v5 then
    bnv (f_X9_advance h4) fun h7 =>
    lt (h7.2.2 4 1) fun r8 =>
    if isO 8 r8 = true then
    bnd (f_X6_toldHere 0 (h7.1 r8 0) h7) fun v11 h10 =>
    (if v11 < 0 then
      some (0, h10)
    else
      lt (h10.2.2 4 1) fun r13 =>
      if isO 8 r13 = true then
      bnd (f_X10_mayFollow r13 v5 v11 h10) fun v16 h15 =>
      (if v16 = 0 then
        B_X6_readFollow_72 v5 v11 h15
      else
        bnd (f_X6_refuse 3 h15) fun v23 h22 =>
        (if v23 = 0 then
          some (0, h22)
        else
          B_X6_readFollow_72 v5 v11 h22))
      else none)
    else none
  else
    some (0, h4))
  else none
def B_X6_readNewName_71 (x1 : Int32) (t0 : Int32) (h : Hp) : Option (Int32 × Hp) :=
  if t0 = 0 then
    lt (h.2.2 4 1) fun r11 =>
    if isO 8 r11 = true then
    if inb x1 16 = true then
    lt (sI h (r11 + 1) (x1.toNatClampNeg) (h.1 5 5)) fun h14 =>
    bnv (f_X9_advance h14) fun h15 =>
    some (1, h15)
    else none
    else none
  else
    bnd (f_X6_refuse 3 h) fun v17 h16 =>
    if isZ v17 = true then
    some (v17, h16)
    else none
def f_X6_readNewName (x1 : Int32) (h : Hp) : Option (Int32 × Hp) :=
  bnv (f_X9_advance h) fun h1 =>
  bnd (f_X6_isNameHere h1) fun v3 h2 =>
  (if v3 = 0 then
    bnd (f_X6_refuse 1 h2) fun v30 h29 =>
    if isZ v30 = true then
    some (v30, h29)
    else none
  else
    lt (h2.2.2 4 1) fun r5 =>
    if isO 8 r5 = true then
    bnd (f_X6_indexOfName 0 (h2.1 r5 0) h2) fun v8 h7 =>
    (if 0 ≤ v8 then
      B_X6_readNewName_71 x1 1 h7
    else
      lt (h7.2.2 4 1) fun r19 =>
      if isO 8 r19 = true then
      bnd (f_X6_indexOfName 5 (h7.1 r19 1) h7) fun v22 h21 =>
      (if 0 ≤ v22 then
        B_X6_readNewName_71 x1 1 h21
      else
        lt (h21.2.2 4 1) fun r24 =>
        if isO 8 r24 = true then
        bnd (f_X6_indexOfName 8 (h21.1 r24 2) h21) fun v27 h26 =>
        (if v27 < 0 then
          B_X6_readNewName_71 x1 0 h26
        else
          B_X6_readNewName_71 x1 1 h26)
        else none)
      else none)
    else none)
def f_X6_readMark (h : Hp) : Option (Int32 × Hp) :=
  lt (h.2.2 4 1) fun r1 =>
  if isO 8 r1 = true then
  (if (h.1 r1 1) < 3 then
    lt (h.2.2 4 1) fun r4 =>
    if isO 8 r4 = true then
    bnd (f_X6_readNewName (5 + (h.1 r4 1)) h) fun v7 h6 =>
    (if v7 = 0 then
      some (0, h6)
    else
      lt (h6.2.2 4 1) fun r9 =>
      if isO 8 r9 = true then
      lt (sI h6 r9 1 ((h6.1 r9 1) + 1)) fun h11 =>
      some (1, h11)
      else none)
    else none
  else
    bnd (f_X6_refuse 4 h) fun v13 h12 =>
    if isZ v13 = true then
    some (v13, h12)
    else none)
  else none
def f_X10_turnReads (x0 : Nat) (x1 : Int32) (x2 : Int32) (h : Hp) : Option Hp :=
  if inb x1 8 = true then
  if inb x1 8 = true then
  lt (sI h (x0 + 8) (x1.toNatClampNeg) ((h.1 (x0 + 8) (x1.toNatClampNeg)) ^^^ (jshl 1 x2))) fun h3 =>
  some h3
  else none
  else none
def f_X6_isChange (h : Hp) : Option (Int32 × Hp) :=
  lt (h.2.2 5 6) fun r1 =>
  if isKw r1 = true then
  (if r1 = 311 then
    some (1, h)
  else
    if r1 = 312 then
      some (1, h)
    else
      if r1 = 313 then
        some (1, h)
      else
        some (0, h))
  else none
def F_X10_change_14 (x0 : Nat) (x3 : Int32) (x4 : Int32) (x5 : Int32) (k49 : Hp → Option Hp) (self : Int32 → Hp → Option Hp) (x6 : Int32) (h : Hp) : Option Hp :=
  if (x5 + 8) ≤ x6 then
    k49 h
  else
    if inb x6 320 = true then
    if inb x6 320 = true then
    lt (sI h (x0 + 9) (x6.toNatClampNeg) (((h.1 (x0 + 9) (x6.toNatClampNeg)) &&& x3) ^^^ x4)) fun h5 =>
    self (x6 + 1) h5
    else none
    else none
def f_X10_change (x0 : Nat) (x1 : Int32) (x2 : Int32) (x3 : Int32) (x4 : Int32) (h : Hp) : Option Hp :=
  lt (((x1 * 5) + x2) * 8) fun v1 =>
  itr2 (F_X10_change_14 x0 x3 x4 v1 (fun h6 =>
    some h6)) N0 v1 h
def B_X6_readChange_82 (t0 : Int32) (t1 : Int32) (t2 : Int32) (t3 : Int32) (t4 : Nat) (h : Hp) : Option (Int32 × Hp) :=
  bnv (f_X10_change t4 t3 t2 t1 t0 h) fun h14 =>
  bnv (f_X9_advance h14) fun h15 =>
  some (1, h15)
def B_X6_readChange_59 (x1 : Int32) (x2 : Int32) (x3 : Nat) (x5 : Int32) (t0 : Int32) (h : Hp) : Option (Int32 × Hp) :=
  lt (h.2.2 4 1) fun r11 =>
  if isO 8 r11 = true then
  (if x3 = 312 then
    B_X6_readChange_82 0 t0 x2 x1 r11 h
  else
    B_X6_readChange_82 x5 t0 x2 x1 r11 h)
  else none
def f_X6_readChange (x1 : Int32) (x2 : Int32) (h : Hp) : Option (Int32 × Hp) :=
  lt (h.2.2 5 6) fun r1 =>
  if isKw r1 = true then
  bnv (f_X9_advance h) fun h3 =>
  lt (h3.2.2 4 1) fun r4 =>
  if isO 8 r4 = true then
  bnd (f_X6_toldHere 5 (h3.1 r4 1) h3) fun v7 h6 =>
  (if 0 ≤ v7 then
    lt (jshl 1 v7) fun v9 =>
    (if r1 = 313 then
      B_X6_readChange_59 x1 x2 r1 v9 7 h6
    else
      B_X6_readChange_59 x1 x2 r1 v9 (7 - v9) h6)
  else
    some (0, h6))
  else none
  else none
def F_X6_readReads_91 (x1 : Int32) (x2 : Int32) (k113 : Hp → Option (Int32 × Hp)) (k121 : Hp → Option (Int32 × Hp)) (self : Int32 → Hp → Option (Int32 × Hp)) (x3 : Int32) (h : Hp) : Option (Int32 × Hp) :=
  if 6 ≤ x3 then
    k121 h
  else
    bnd (f_X6_isChange h) fun v24 h23 =>
    (if v24 = 0 then
      k121 h23
    else
      bnd (f_X6_readChange x1 x2 h23) fun v27 h26 =>
      (if v27 = 0 then
        k113 h26
      else
        self (x3 + 1) h26))
def B_X6_readReads_121 (h : Hp) : Option (Int32 × Hp) :=
  bnd (f_X6_isChange h) fun v32 h31 =>
  (if v32 = 0 then
    some (1, h31)
  else
    bnd (f_X6_refuse 4 h31) fun v35 h34 =>
    (if v35 = 0 then
      some (0, h34)
    else
      some (1, h34)))
def B_X6_readReads_73 (x1 : Int32) (x2 : Int32) (h : Hp) : Option (Int32 × Hp) :=
  lt (h.2.2 4 1) fun r18 =>
  if isO 8 r18 = true then
  bnv (f_X10_turnReads r18 x1 x2 h) fun h20 =>
  bnv (f_X9_advance h20) fun h21 =>
  itr2 (F_X6_readReads_91 x1 x2 (fun h29 =>
    some (0, h29)) (fun h30 =>
    B_X6_readReads_121 h30)) N0 0 h21
  else none
def f_X6_readReads (h : Hp) : Option (Int32 × Hp) :=
  bnv (f_X9_advance h) fun h1 =>
  lt (h1.2.2 4 1) fun r2 =>
  if isO 8 r2 = true then
  bnd (f_X6_toldHere 8 (h1.1 r2 2) h1) fun v5 h4 =>
  (if 0 ≤ v5 then
    bnv (f_X9_advance h4) fun h7 =>
    lt (h7.2.2 4 1) fun r8 =>
    if isO 8 r8 = true then
    bnd (f_X6_toldHere 0 (h7.1 r8 0) h7) fun v11 h10 =>
    (if v11 < 0 then
      some (0, h10)
    else
      lt (h10.2.2 4 1) fun r13 =>
      if isO 8 r13 = true then
      bnd (f_X10_readsAs r13 v5 v11 h10) fun v16 h15 =>
      (if v16 = 0 then
        B_X6_readReads_73 v5 v11 h15
      else
        bnd (f_X6_refuse 3 h15) fun v38 h37 =>
        (if v38 = 0 then
          some (0, h37)
        else
          B_X6_readReads_73 v5 v11 h37))
      else none)
    else none
  else
    some (0, h4))
  else none
def f_X6_isBeginsOrEnds (h : Hp) : Option (Int32 × Hp) :=
  lt (h.2.2 5 6) fun r1 =>
  if isKw r1 = true then
  (if r1 = 301 then
    some (1, h)
  else
    lt (h.2.2 5 6) fun r4 =>
    if isKw r4 = true then
    (if r4 = 302 then
      some (1, h)
    else
      some (0, h))
    else none)
  else none
def B_X6_readSort_126 (x1 : Int32) (k97 : Hp → Option (Int32 × Hp)) (k104 : Hp → Option (Int32 × Hp)) (k141 : Int32 → Int32 → Hp → Option (Int32 × Hp)) (self : Int32 → Int32 → Int32 → Hp → Option (Int32 × Hp)) (x2 : Int32) (x4 : Int32) (t0 : Int32) (t1 : Int32) (h : Hp) : Option (Int32 × Hp) :=
  lt (t1 ||| t0) fun v24 =>
  bnv (f_X9_advance h) fun h25 =>
  self x2 v24 (x4 + 1) h25
def B_X6_readSort_110 (x1 : Int32) (k97 : Hp → Option (Int32 × Hp)) (k104 : Hp → Option (Int32 × Hp)) (k141 : Int32 → Int32 → Hp → Option (Int32 × Hp)) (self : Int32 → Int32 → Int32 → Hp → Option (Int32 × Hp)) (x2 : Int32) (x3 : Int32) (x4 : Int32) (x5 : Int32) (h : Hp) : Option (Int32 × Hp) :=
  lt (x2 ||| x5) fun v22 =>
  (if x5 = 0 then
    B_X6_readSort_126 x1 k97 k104 k141 self v22 x4 1 x3 h
  else
    B_X6_readSort_126 x1 k97 k104 k141 self v22 x4 0 x3 h)
def B_X6_readSort_86 (x1 : Int32) (k97 : Hp → Option (Int32 × Hp)) (k104 : Hp → Option (Int32 × Hp)) (k141 : Int32 → Int32 → Hp → Option (Int32 × Hp)) (self : Int32 → Int32 → Int32 → Hp → Option (Int32 × Hp)) (x2 : Int32) (x3 : Int32) (x4 : Int32) (t0 : Int32) (h : Hp) : Option (Int32 × Hp) :=
  if t0 = 0 then
    if x3 = 0 then
      B_X6_readSort_110 x1 k97 k104 k141 self x2 x3 x4 t0 h
    else
      k104 h
  else
    if x2 = 0 then
      B_X6_readSort_110 x1 k97 k104 k141 self x2 x3 x4 t0 h
    else
      k97 h
def F_X6_readSort_55 (x1 : Int32) (k97 : Hp → Option (Int32 × Hp)) (k104 : Hp → Option (Int32 × Hp)) (k141 : Int32 → Int32 → Hp → Option (Int32 × Hp)) (self : Int32 → Int32 → Int32 → Hp → Option (Int32 × Hp)) (x2 : Int32) (x3 : Int32) (x4 : Int32) (h : Hp) : Option (Int32 × Hp) :=
  if 2 ≤ x4 then
    k141 x2 x3 h
  else
    bnd (f_X6_isBeginsOrEnds h) fun v15 h14 =>
    (if v15 = 0 then
      k141 x2 x3 h14
    else
      lt (h14.2.2 5 6) fun r17 =>
      if isKw r17 = true then
      (if r17 = 301 then
        B_X6_readSort_86 x1 k97 k104 k141 self x2 x3 x4 1 h14
      else
        B_X6_readSort_86 x1 k97 k104 k141 self x2 x3 x4 0 h14)
      else none)
def B_X6_readSort_104 (h : Hp) : Option (Int32 × Hp) :=
  bnd (f_X6_refuse 3 h) fun v29 h28 =>
  if isZ v29 = true then
  some (v29, h28)
  else none
def B_X6_readSort_188 (t0 : Int64) (t1 : Int64) (t2 : Nat) (h : Hp) : Option (Int32 × Hp) :=
  lt (sL h t2 7 (t1 ||| t0)) fun h44 =>
  bnd (f_X6_isBeginsOrEnds h44) fun v46 h45 =>
  (if v46 = 0 then
    some (1, h45)
  else
    bnd (f_X6_refuse 3 h45) fun v49 h48 =>
    (if v49 = 0 then
      some (0, h48)
    else
      some (1, h48)))
def B_X6_readSort_162 (x1 : Int32) (x3 : Int32) (t0 : Int64) (t1 : Int64) (t2 : Int32) (t3 : Nat) (h : Hp) : Option (Int32 × Hp) :=
  if inb t2 5 = true then
  lt (sL h t3 (t2.toNatClampNeg) (t1 ||| t0)) fun h40 =>
  lt (h40.2.2 4 1) fun r41 =>
  if isO 8 r41 = true then
  (if x3 = 0 then
    B_X6_readSort_188 0 (h40.2.1 r41 7) r41 h40
  else
    B_X6_readSort_188 (jlshl 255 (8 * x1)) (h40.2.1 r41 7) r41 h40)
  else none
  else none
def B_X6_readSort_141 (x1 : Int32) (x2 : Int32) (x3 : Int32) (h : Hp) : Option (Int32 × Hp) :=
  lt (h.2.2 4 1) fun r35 =>
  if isO 8 r35 = true then
  if inb x1 5 = true then
  (if x2 = 0 then
    B_X6_readSort_162 x1 x3 0 (h.2.1 (r35 + 4) (x1.toNatClampNeg)) x1 (r35 + 4) h
  else
    B_X6_readSort_162 x1 x3 280375465082880 (h.2.1 (r35 + 4) (x1.toNatClampNeg)) x1 (r35 + 4) h)
  else none
  else none
def f_X6_readSort (h : Hp) : Option (Int32 × Hp) :=
  lt (h.2.2 4 1) fun r1 =>
  if isO 8 r1 = true then
  (if (h.1 r1 0) < 5 then
    lt (h.2.2 4 1) fun r4 =>
    if isO 8 r4 = true then
    lt (h.1 r4 0) fun v6 =>
    bnd (f_X6_readNewName v6 h) fun v8 h7 =>
    (if v8 = 0 then
      some (0, h7)
    else
      lt (h7.2.2 4 1) fun r10 =>
      if isO 8 r10 = true then
      lt (sI h7 r10 0 ((h7.1 r10 0) + 1)) fun h12 =>
      itr4 (F_X6_readSort_55 v6 (fun h27 =>
        B_X6_readSort_104 h27) (fun h31 =>
        B_X6_readSort_104 h31) (fun v33 v34 h32 =>
        B_X6_readSort_141 v6 v33 v34 h32)) N0 0 0 0 h12
      else none)
    else none
  else
    bnd (f_X6_refuse 4 h) fun v52 h51 =>
    if isZ v52 = true then
    some (v52, h51)
    else none)
  else none
def f_X6_readOption (x1 : Nat) (x2 : Nat) (x3 : Int32) (x4 : Int32) (h : Hp) : Option (Int32 × Hp) :=
  lt (h.2.2 4 1) fun r1 =>
  if isO 8 r1 = true then
  lt ((h.1 r1 2) - 1) fun v3 =>
  (if v3 < 0 then
    some (0, h)
  else
    if v3 < (Int32.ofNat (aln x2)) then
      if inb v3 (aln x2) = true then
      lt (sI h x2 (v3.toNatClampNeg) 1) fun h7 =>
      lt (h7.2.2 5 6) fun r8 =>
      if isKw r8 = true then
      (if r8 = x1 then
        bnv (f_X9_advance h7) fun h11 =>
        bnd (f_X6_numberHere x3 x4 h11) fun v13 h12 =>
        (if 0 ≤ v13 then
          if inb v3 (aln x2) = true then
          lt (sI h12 x2 (v3.toNatClampNeg) v13) fun h16 =>
          bnv (f_X9_advance h16) fun h17 =>
          some (1, h17)
          else none
        else
          some (0, h12))
      else
        some (1, h7))
      else none
      else none
    else
      some (0, h))
  else none
def B_X6_readWord_117 (x1 : Int32) (t0 : Int32) (h : Hp) : Option (Int32 × Hp) :=
  if t0 = 0 then
    if isZ t0 = true then
    some (t0, h)
    else none
  else
    lt (h.2.2 5 6) fun r20 =>
    if isKw r20 = true then
    (if r20 = 309 then
      lt (h.2.2 4 1) fun r24 =>
      if isO 8 r24 = true then
      lt (sI h r24 11 ((h.1 r24 11) ||| (jshl 1 x1))) fun h26 =>
      bnv (f_X9_advance h26) fun h27 =>
      if isZ t0 = true then
      some (t0, h27)
      else none
      else none
    else
      if isZ t0 = true then
      some (t0, h)
      else none)
    else none
def f_X6_readWord (h : Hp) : Option (Int32 × Hp) :=
  lt (h.2.2 4 1) fun r1 =>
  if isO 8 r1 = true then
  (if (h.1 r1 2) < 8 then
    lt (h.2.2 4 1) fun r4 =>
    if isO 8 r4 = true then
    lt (h.1 r4 2) fun v6 =>
    bnd (f_X6_readNewName (8 + v6) h) fun v8 h7 =>
    (if v8 = 0 then
      some (0, h7)
    else
      lt (h7.2.2 4 1) fun r10 =>
      if isO 8 r10 = true then
      lt (sI h7 r10 2 ((h7.1 r10 2) + 1)) fun h12 =>
      lt (h12.2.2 4 1) fun r13 =>
      if isO 8 r13 = true then
      bnd (f_X6_readOption 306 (r13 + 5) 0 9 h12) fun v16 h15 =>
      (if v16 = 0 then
        B_X6_readWord_117 v6 0 h15
      else
        lt (h15.2.2 4 1) fun r29 =>
        if isO 8 r29 = true then
        bnd (f_X6_readOption 307 (r29 + 6) 1 60 h15) fun v32 h31 =>
        (if v32 = 0 then
          B_X6_readWord_117 v6 0 h31
        else
          lt (h31.2.2 4 1) fun r34 =>
          if isO 8 r34 = true then
          bnd (f_X6_readOption 308 (r34 + 7) 0 99 h31) fun v37 h36 =>
          (if v37 = 0 then
            B_X6_readWord_117 v6 0 h36
          else
            B_X6_readWord_117 v6 1 h36)
          else none)
        else none)
      else none
      else none)
    else none
  else
    bnd (f_X6_refuse 4 h) fun v40 h39 =>
    if isZ v40 = true then
    some (v40, h39)
    else none)
  else none
def f_X6_readLine (h : Hp) : Option (Int32 × Hp) :=
  lt (h.2.2 5 6) fun r1 =>
  if isKw r1 = true then
  (if r1 = 0 then
    bnd (f_X6_refuse 1 h) fun v61 h60 =>
    if isZ v61 = true then
    some (v61, h60)
    else none
  else
    lt (h.2.2 5 6) fun r4 =>
    if isKw r4 = true then
    if isKn r4 = true then
    if inb (Int32.ofNat (r4 - 300)) 16 = true then
    (if (swT.getD (Int32.ofNat (r4 - 300)).toNatClampNeg 0) = 1 then
      bnd (f_X6_readSort h) fun v10 h9 =>
      (if v10 = 0 then
        some (0, h9)
      else
        bnd (f_X6_readClose h9) fun v13 h12 =>
        (if v13 = 0 then
          some (0, h12)
        else
          some (1, h12)))
    else
      if (swT.getD (Int32.ofNat (r4 - 300)).toNatClampNeg 0) = 2 then
        bnd (f_X6_readMark h) fun v17 h16 =>
        (if v17 = 0 then
          some (0, h16)
        else
          bnd (f_X6_readClose h16) fun v20 h19 =>
          (if v20 = 0 then
            some (0, h19)
          else
            some (1, h19)))
      else
        if (swT.getD (Int32.ofNat (r4 - 300)).toNatClampNeg 0) = 3 then
          bnd (f_X6_readFollow h) fun v24 h23 =>
          (if v24 = 0 then
            some (0, h23)
          else
            bnd (f_X6_readClose h23) fun v27 h26 =>
            (if v27 = 0 then
              some (0, h26)
            else
              some (1, h26)))
        else
          if (swT.getD (Int32.ofNat (r4 - 300)).toNatClampNeg 0) = 4 then
            bnd (f_X6_readWord h) fun v31 h30 =>
            (if v31 = 0 then
              some (0, h30)
            else
              bnd (f_X6_readClose h30) fun v34 h33 =>
              (if v34 = 0 then
                some (0, h33)
              else
                some (1, h33)))
          else
            if (swT.getD (Int32.ofNat (r4 - 300)).toNatClampNeg 0) = 5 then
              bnd (f_X6_readReads h) fun v38 h37 =>
              (if v38 = 0 then
                some (0, h37)
              else
                bnd (f_X6_readClose h37) fun v41 h40 =>
                (if v41 = 0 then
                  some (0, h40)
                else
                  some (1, h40)))
            else
              if (swT.getD (Int32.ofNat (r4 - 300)).toNatClampNeg 0) = 6 then
                bnd (f_X6_readEdict h) fun v45 h44 =>
                (if v45 = 0 then
                  some (0, h44)
                else
                  bnd (f_X6_readClose h44) fun v48 h47 =>
                  (if v48 = 0 then
                    some (0, h47)
                  else
                    some (1, h47)))
              else
                if (swT.getD (Int32.ofNat (r4 - 300)).toNatClampNeg 0) = 7 then
                  bnd (f_X6_readClerk h) fun v52 h51 =>
                  (if v52 = 0 then
                    some (0, h51)
                  else
                    bnd (f_X6_readClose h51) fun v55 h54 =>
                    (if v55 = 0 then
                      some (0, h54)
                    else
                      some (1, h54)))
                else
                  bnd (f_X6_refuse 1 h) fun v58 h57 =>
                  if isZ v58 = true then
                  some (v58, h57)
                  else none)
    else none
    else none
    else none)
  else none
def f_X9_isTooLong (h : Hp) : Option (Int32 × Hp) :=
  lt (h.2.2 5 0) fun r1 =>
  if isO 5 r1 = true then
  (if (h.1 r1 1) ≤ (h.1 5 1) then
    some (0, h)
  else
    some (1, h))
  else none
def F_X6_readTongue_25 (x2 : Nat) (k49 : Hp → Option (Int32 × Hp)) (k62 : Int32 → Hp → Option (Int32 × Hp)) (self : Int32 → Hp → Option (Int32 × Hp)) (x3 : Int32) (h : Hp) : Option (Int32 × Hp) :=
  if 900 ≤ x3 then
    k62 x3 h
  else
    if (h.1 5 3) = 0 then
      k62 x3 h
    else
      bnd (f_X6_readLine h) fun v8 h7 =>
      (if v8 = 0 then
        k49 h7
      else
        self (x3 + 1) h7)
def B_X6_readTongue_62 (x2 : Nat) (x3 : Int32) (h : Hp) : Option (Int32 × Hp) :=
  bnd (f_X9_isTooLong h) fun v14 h13 =>
  (if v14 = 0 then
    bnv (f_X10_settle x2 h13) fun h16 =>
    some (x3, h16)
  else
    bnd (f_X6_refuse 1 h13) fun v18 h17 =>
    some ((-1) - (h17.1 4 5), h17))
def f_X6_readTongue (x1 : Nat) (x2 : Nat) (h : Hp) : Option (Int32 × Hp) :=
  bnv (f_X6_begin x1 x2 900 h) fun h1 =>
  bnv (f_X10_clear x2 h1) fun h2 =>
  lt (sI h2 4 2 0) fun h3 =>
  lt (sI h3 4 3 0) fun h4 =>
  itr2 (F_X6_readTongue_25 x2 (fun h10 =>
    some ((-1) - (h10.1 4 5), h10)) (fun v12 h11 =>
    B_X6_readTongue_62 x2 v12 h11)) N0 0 h4
def B_X6_readText_76 (x2 : Nat) (x3 : Nat) (k69 : Hp → Option (Int32 × Hp)) (k95 : Hp → Option (Int32 × Hp)) (self : Int32 → Hp → Option (Int32 × Hp)) (x4 : Int32) (x5 : Int32) (h : Hp) : Option (Int32 × Hp) :=
  bnv (f_X7_put x3 x5 h) fun h9 =>
  bnv (f_X9_advance h9) fun h10 =>
  self (x4 + 1) h10
def F_X6_readText_17 (x2 : Nat) (x3 : Nat) (k69 : Hp → Option (Int32 × Hp)) (k95 : Hp → Option (Int32 × Hp)) (self : Int32 → Hp → Option (Int32 × Hp)) (x4 : Int32) (h : Hp) : Option (Int32 × Hp) :=
  if 200 ≤ x4 then
    k95 h
  else
    if (h.1 5 3) = 0 then
      k95 h
    else
      bnd (f_X6_toldHere 8 (h.1 x2 2) h) fun v6 h5 =>
      (if v6 < 0 then
        k69 h5
      else
        if (h5.1 x3 1) < 24 then
          B_X6_readText_76 x2 x3 k69 k95 self x4 v6 h5
        else
          bnd (f_X6_refuse 4 h5) fun v12 h11 =>
          (if v12 = 0 then
            k69 h11
          else
            B_X6_readText_76 x2 x3 k69 k95 self x4 v6 h11))
def B_X6_readText_95 (x3 : Nat) (h : Hp) : Option (Int32 × Hp) :=
  bnd (f_X9_isTooLong h) fun v17 h16 =>
  (if v17 = 0 then
    some (h16.1 x3 1, h16)
  else
    bnd (f_X6_refuse 1 h16) fun v20 h19 =>
    some ((-1) - (h19.1 4 5), h19))
def f_X6_readText (x1 : Nat) (x2 : Nat) (x3 : Nat) (h : Hp) : Option (Int32 × Hp) :=
  bnv (f_X6_begin x1 x2 200 h) fun h1 =>
  lt (sI h1 x3 1 0) fun h2 =>
  itr2 (F_X6_readText_17 x2 x3 (fun h14 =>
    some ((-1) - (h14.1 4 5), h14)) (fun h15 =>
    B_X6_readText_95 x3 h15)) N0 0 h2
def f_X8_mayStandAt (x1 : Int32) (x2 : Int32) (h : Hp) : Option (Int32 × Hp) :=
  if inb x1 12 = true then
  (if (h.1 136 (x1.toNatClampNeg)) = (-1) then
    some (1, h)
  else
    if inb x1 12 = true then
    (if (h.1 136 (x1.toNatClampNeg)) = x2 then
      some (1, h)
    else
      some (0, h))
    else none)
  else none
def F_X8_sortsBehind_20 (x1 : Int32) (x2 : Int32) (x4 : Int32) (k75 : Int32 → Hp → Option (Int32 × Hp)) (self : Int32 → Int32 → Hp → Option (Int32 × Hp)) (x3 : Int32) (x5 : Int32) (h : Hp) : Option (Int32 × Hp) :=
  if 5 < x5 then
    k75 x3 h
  else
    lt (h.2.2 133 7) fun r5 =>
    if isO 8 r5 = true then
    bnd (f_X10_readsAs r5 x2 x4 h) fun v8 h7 =>
    (if v8 = 0 then
      k75 x3 h7
    else
      if ((jshr x1 x5) &&& 1) = 0 then
        self x3 (x5 + 1) h7
      else
        lt (h7.2.2 133 7) fun r11 =>
        if isO 8 r11 = true then
        bnd (f_X10_mayFollow r11 x5 x4 h7) fun v14 h13 =>
        (if v14 = 0 then
          self x3 (x5 + 1) h13
        else
          lt (x3 ||| (jshl 1 x4)) fun v16 =>
          self v16 (x5 + 1) h13)
        else none)
    else none
def F_X8_sortsBehind_5 (x1 : Int32) (x2 : Int32) (k81 : Int32 → Hp → Option (Int32 × Hp)) (self : Int32 → Int32 → Hp → Option (Int32 × Hp)) (x3 : Int32) (x4 : Int32) (h : Hp) : Option (Int32 × Hp) :=
  lt (h.2.2 133 7) fun r1 =>
  if isO 8 r1 = true then
  (if (h.1 r1 0) ≤ x4 then
    k81 x3 h
  else
    itr3 (F_X8_sortsBehind_20 x1 x2 x4 (fun v18 h17 =>
      self v18 (x4 + 1) h17)) N0 x3 0 h)
  else none
def f_X8_sortsBehind (x1 : Int32) (x2 : Int32) (h : Hp) : Option (Int32 × Hp) :=
  itr3 (F_X8_sortsBehind_5 x1 x2 (fun v20 h19 =>
    some (v20, h19))) N0 0 0 h
def f_X8_weightAt (x1 : Int32) (x2 : Int32) (h : Hp) : Option (Int64 × Hp) :=
  if inb x1 12 = true then
  (if (h.1 136 (x1.toNatClampNeg)) = (-1) then
    lt (h.2.2 133 7) fun r3 =>
    if isO 8 r3 = true then
    if inb x2 8 = true then
    some ((h.1 (r3 + 6) (x2.toNatClampNeg)).toInt64, h)
    else none
    else none
  else
    some (1, h))
  else none
def F_X8_firstAt_41 (x1 : Int32) (x2 : Int32) (x3 : Int64) (x5 : Int32) (x6 : Int32) (k99 : Hp → Option (Int32 × Hp)) (k108 : Hp → Option (Int32 × Hp)) (self : Int32 → Hp → Option (Int32 × Hp)) (x7 : Int32) (h : Hp) : Option (Int32 × Hp) :=
  lt (h.2.2 133 7) fun r7 =>
  if isO 8 r7 = true then
  (if (h.1 r7 0) ≤ x7 then
    k108 h
  else
    if inb (((x1 + 1) * 6) + x7) 78 = true then
    lt (h.2.1 139 ((((x1 + 1) * 6) + x7).toNatClampNeg)) fun v11 =>
    (if ((jshr x6 x7) &&& 1) = 0 then
      self (x7 + 1) h
    else
      bnd (f_X8_weightAt x1 x5 h) fun v14 h13 =>
      (if (lg_cmp ((x3 * v14) * v11) (h13.2.1 133 5)) = 0 then
        k99 h13
      else
        self (x7 + 1) h13))
    else none)
  else none
def F_X8_firstAt_3 (x1 : Int32) (x2 : Int32) (x3 : Int64) (k99 : Int32 → Hp → Option (Int32 × Hp)) (k114 : Hp → Option (Int32 × Hp)) (self : Int32 → Hp → Option (Int32 × Hp)) (x5 : Int32) (h : Hp) : Option (Int32 × Hp) :=
  lt (h.2.2 133 7) fun r1 =>
  if isO 8 r1 = true then
  (if (h.1 r1 2) ≤ x5 then
    k114 h
  else
    bnd (f_X8_mayStandAt x1 x5 h) fun v5 h4 =>
    (if v5 = 0 then
      itr2 (F_X8_firstAt_41 x1 x2 x3 x5 0 (fun h16 =>
        k99 x5 h16) (fun h17 =>
        self (x5 + 1) h17)) N0 0 h4
    else
      bnd (f_X8_sortsBehind x2 x5 h4) fun v19 h18 =>
      itr2 (F_X8_firstAt_41 x1 x2 x3 x5 v19 (fun h20 =>
        k99 x5 h20) (fun h21 =>
        self (x5 + 1) h21)) N0 0 h18))
  else none
def f_X8_firstAt (x1 : Int32) (x2 : Int32) (x3 : Int64) (h : Hp) : Option (Int32 × Hp) :=
  itr2 (F_X8_firstAt_3 x1 x2 x3 (fun v23 h22 =>
    some (v23, h22)) (fun h24 =>
    some ((-1), h24))) N0 0 h
def F_X8_chooseRow_16 (k40 : Hp → Option Hp) (k75 : Hp → Option Hp) (self : Int64 → Int32 → Int32 → Hp → Option Hp) (x1 : Int64) (x3 : Int32) (x4 : Int32) (h : Hp) : Option Hp :=
  if (h.1 133 9) ≤ x4 then
    k75 h
  else
    bnd (f_X8_firstAt x4 x3 x1 h) fun v4 h3 =>
    (if 0 ≤ v4 then
      bnv (f_X7_put 134 v4 h3) fun h6 =>
      bnd (f_X8_weightAt x4 v4 h6) fun v8 h7 =>
      lt (x1 * v8) fun v9 =>
      bnd (f_X8_sortsBehind x3 v4 h7) fun v11 h10 =>
      self v9 v11 (x4 + 1) h10
    else
      k40 h3)
def f_X8_chooseRow (h : Hp) : Option Hp :=
  lt (sI h 134 1 0) fun h1 =>
  itr4 (F_X8_chooseRow_16 (fun h12 =>
    some h12) (fun h13 =>
    some h13)) N0 1 32 0 h1
def f_X10_made (x0 : Nat) (x1 : Int32) (x2 : Int32) (x3 : Int32) (h : Hp) : Option (Int32 × Hp) :=
  if inb ((((x1 * 5) + x2) * 8) + x3) 320 = true then
  some (h.1 (x0 + 9) (((((x1 * 5) + x2) * 8) + x3).toNatClampNeg), h)
  else none
def F_X8_countWith_15 (x1 : Int32) (x2 : Int32) (k73 : Hp → Option Hp) (self : Int32 → Hp → Option Hp) (x3 : Int32) (h : Hp) : Option Hp :=
  if 8 ≤ x3 then
    k73 h
  else
    lt (h.2.2 133 7) fun r5 =>
    if isO 8 r5 = true then
    bnd (f_X10_readsAs r5 x1 x2 h) fun v8 h7 =>
    (if v8 = 0 then
      k73 h7
    else
      lt (h7.2.2 133 7) fun r10 =>
      if isO 8 r10 = true then
      bnd (f_X10_made r10 x1 x2 x3 h7) fun v13 h12 =>
      if inb ((x2 * 8) + v13) 48 = true then
      if inb ((x2 * 8) + x3) 40 = true then
      if inb ((x2 * 8) + v13) 48 = true then
      lt (sL h12 137 (((x2 * 8) + v13).toNatClampNeg) ((h12.2.1 137 (((x2 * 8) + v13).toNatClampNeg)) + (h12.2.1 138 (((x2 * 8) + x3).toNatClampNeg)))) fun h17 =>
      self (x3 + 1) h17
      else none
      else none
      else none
      else none)
    else none
def F_X8_countWith_2 (x1 : Int32) (k79 : Hp → Option Hp) (self : Int32 → Hp → Option Hp) (x2 : Int32) (h : Hp) : Option Hp :=
  lt (h.2.2 133 7) fun r1 =>
  if isO 8 r1 = true then
  (if (h.1 r1 0) ≤ x2 then
    k79 h
  else
    itr2 (F_X8_countWith_15 x1 x2 (fun h18 =>
      self (x2 + 1) h18)) N0 0 h)
  else none
def f_X8_countWith (x1 : Int32) (h : Hp) : Option Hp :=
  itr2 (F_X8_countWith_2 x1 (fun h19 =>
    some h19)) N0 0 h
def F_X8_sumWhatIsAhead_30 (x1 : Int32) (x2 : Int32) (k79 : Hp → Option Hp) (self : Int32 → Hp → Option Hp) (x3 : Int32) (h : Hp) : Option Hp :=
  if 8 ≤ x3 then
    k79 h
  else
    lt (h.2.2 133 7) fun r7 =>
    if isO 8 r7 = true then
    bnd (f_X10_mayFollow r7 x2 x1 h) fun v10 h9 =>
    (if v10 = 0 then
      k79 h9
    else
      if inb ((x1 * 8) + x3) 40 = true then
      if inb ((x2 * 8) + x3) 48 = true then
      if inb ((x1 * 8) + x3) 40 = true then
      lt (sL h9 138 (((x1 * 8) + x3).toNatClampNeg) ((h9.2.1 138 (((x1 * 8) + x3).toNatClampNeg)) + (h9.2.1 137 (((x2 * 8) + x3).toNatClampNeg)))) fun h15 =>
      self (x3 + 1) h15
      else none
      else none
      else none)
    else none
def F_X8_sumWhatIsAhead_23 (x1 : Int32) (k85 : Hp → Option Hp) (self : Int32 → Hp → Option Hp) (x2 : Int32) (h : Hp) : Option Hp :=
  if 5 < x2 then
    k85 h
  else
    itr2 (F_X8_sumWhatIsAhead_30 x1 x2 (fun h16 =>
      self (x2 + 1) h16)) N0 0 h
def F_X8_sumWhatIsAhead_10 (k91 : Hp → Option Hp) (self : Int32 → Hp → Option Hp) (x1 : Int32) (h : Hp) : Option Hp :=
  lt (h.2.2 133 7) fun r2 =>
  if isO 8 r2 = true then
  (if (h.1 r2 0) ≤ x1 then
    k91 h
  else
    itr2 (F_X8_sumWhatIsAhead_23 x1 (fun h17 =>
      self (x1 + 1) h17)) N0 0 h)
  else none
def f_X8_sumWhatIsAhead (h : Hp) : Option Hp :=
  bnv (f_J7_fill_d0a16 138 0 h) fun h1 =>
  itr2 (F_X8_sumWhatIsAhead_10 (fun h18 =>
    some h18)) N0 0 h1
def F_X8_countAll_40 (x1 : Int32) (k71 : Hp → Option Hp) (self : Int32 → Hp → Option Hp) (x2 : Int32) (h : Hp) : Option Hp :=
  lt (h.2.2 133 7) fun r6 =>
  if isO 8 r6 = true then
  (if (h.1 r6 2) ≤ x2 then
    k71 h
  else
    bnd (f_X8_mayStandAt x1 x2 h) fun v10 h9 =>
    (if v10 = 0 then
      self (x2 + 1) h9
    else
      bnv (f_X8_countWith x2 h9) fun h12 =>
      self (x2 + 1) h12))
  else none
def F_X8_countAll_18 (k77 : Hp → Option Hp) (self : Int32 → Hp → Option Hp) (x1 : Int32) (h : Hp) : Option Hp :=
  if (h.1 133 9) ≤ x1 then
    k77 h
  else
    bnv (f_X8_sumWhatIsAhead h) fun h4 =>
    bnv (f_J7_fill_d0a16 137 0 h4) fun h5 =>
    itr2 (F_X8_countAll_40 x1 (fun h13 =>
      self (x1 + 1) h13)) N0 0 h5
def F_X8_countAll_89 (k156 : Hp → Option Hp) (self : Int32 → Hp → Option Hp) (x1 : Int32) (h : Hp) : Option Hp :=
  if 40 ≤ x1 then
    k156 h
  else
    if inb x1 48 = true then
    (if (lg_cmp (h.2.1 137 (x1.toNatClampNeg)) 0) = 0 then
      self (x1 + 1) h
    else
      lt (h.2.2 133 7) fun r20 =>
      if isO 8 r20 = true then
      bnd (f_X10_mayEnd r20 (x1 / 8) h) fun v23 h22 =>
      (if v23 = 0 then
        self (x1 + 1) h22
      else
        if inb x1 48 = true then
        lt (sL h22 133 1 ((h22.2.1 133 1) + (h22.2.1 137 (x1.toNatClampNeg)))) fun h26 =>
        lt (sI h26 133 2 ((h26.1 133 2) ||| (jshl 1 (jrem x1 8)))) fun h27 =>
        self (x1 + 1) h27
        else none)
      else none)
    else none
def f_X8_countAll (h : Hp) : Option Hp :=
  bnv (f_J7_fill_d0a16 137 0 h) fun h1 =>
  lt (sL h1 137 ((40 : Int32).toNatClampNeg) 1) fun h2 =>
  itr2 (F_X8_countAll_18 (fun h14 =>
    lt (sL h14 133 1 0) fun h15 =>
    lt (sI h15 133 2 0) fun h16 =>
    itr2 (F_X8_countAll_89 (fun h28 =>
      some h28)) N0 0 h16)) N0 0 h2
def F_X12_meaningsWith_4 (x0 : Int32) (k30 : Int32 → Hp → Option (Int32 × Hp)) (self : Int32 → Int32 → Hp → Option (Int32 × Hp)) (x1 : Int32) (x2 : Int32) (h : Hp) : Option (Int32 × Hp) :=
  if 8 ≤ x2 then
    k30 x1 h
  else
    if ((jshr x2 x0) &&& 1) = 0 then
      self x1 (x2 + 1) h
    else
      lt (x1 ||| (jshl 1 x2)) fun v3 =>
      self v3 (x2 + 1) h
def f_X12_meaningsWith (x0 : Int32) (h : Hp) : Option (Int32 × Hp) :=
  itr3 (F_X12_meaningsWith_4 x0 (fun v5 h4 =>
    some (v5, h4))) N0 0 0 h
def B_X8_tellSure_80 (k90 : Hp → Option Hp) (self : Int32 → Hp → Option Hp) (x1 : Int32) (t0 : Int32) (t1 : Int32) (h : Hp) : Option Hp :=
  lt (sI h 133 4 (t1 ||| t0)) fun h13 =>
  self (x1 + 1) h13
def B_X8_tellSure_60 (k90 : Hp → Option Hp) (self : Int32 → Hp → Option Hp) (x1 : Int32) (x2 : Int32) (t0 : Int32) (t1 : Int32) (h : Hp) : Option Hp :=
  lt (sI h 133 3 (t1 ||| t0)) fun h11 =>
  (if x2 = 0 then
    B_X8_tellSure_80 k90 self x1 (jshl 1 x1) (h11.1 133 4) h11
  else
    B_X8_tellSure_80 k90 self x1 0 (h11.1 133 4) h11)
def F_X8_tellSure_12 (k90 : Hp → Option Hp) (self : Int32 → Hp → Option Hp) (x1 : Int32) (h : Hp) : Option Hp :=
  lt (h.2.2 133 7) fun r3 =>
  if isO 8 r3 = true then
  (if (h.1 r3 1) ≤ x1 then
    k90 h
  else
    if (h.1 133 2) = 0 then
      k90 h
    else
      bnd (f_X12_meaningsWith x1 h) fun v8 h7 =>
      lt ((h.1 133 2) &&& v8) fun v9 =>
      (if v9 = (h7.1 133 2) then
        B_X8_tellSure_60 k90 self x1 v9 (jshl 1 x1) (h7.1 133 3) h7
      else
        B_X8_tellSure_60 k90 self x1 v9 0 (h7.1 133 3) h7))
  else none
def f_X8_tellSure (h : Hp) : Option Hp :=
  lt (sI h 133 3 0) fun h1 =>
  lt (sI h1 133 4 0) fun h2 =>
  itr2 (F_X8_tellSure_12 (fun h14 =>
    some h14)) N0 0 h2
def F_X8_weighWith_62 (x1 : Int32) (x2 : Int32) (x3 : Int32) (x4 : Int32) (x5 : Int64) (k114 : Hp → Option Hp) (self : Int32 → Hp → Option Hp) (x7 : Int32) (h : Hp) : Option Hp :=
  if 5 < x7 then
    k114 h
  else
    if inb (x3 + x7) 78 = true then
    (if (lg_cmp x5 (h.2.1 139 ((x3 + x7).toNatClampNeg))) ≤ 0 then
      self (x7 + 1) h
    else
      lt (h.2.2 133 7) fun r13 =>
      if isO 8 r13 = true then
      bnd (f_X10_mayFollow r13 x7 x4 h) fun v16 h15 =>
      (if v16 = 0 then
        self (x7 + 1) h15
      else
        if inb (x3 + x7) 78 = true then
        lt (sL h15 139 ((x3 + x7).toNatClampNeg) x5) fun h19 =>
        self (x7 + 1) h19
        else none)
      else none)
    else none
def F_X8_weighWith_8 (x1 : Int32) (x2 : Int32) (x3 : Int32) (k120 : Hp → Option Hp) (self : Int32 → Hp → Option Hp) (x4 : Int32) (h : Hp) : Option Hp :=
  lt (h.2.2 133 7) fun r2 =>
  if isO 8 r2 = true then
  (if (h.1 r2 0) ≤ x4 then
    k120 h
  else
    lt (h.2.2 133 7) fun r5 =>
    if isO 8 r5 = true then
    bnd (f_X10_readsAs r5 x2 x4 h) fun v8 h7 =>
    (if v8 = 0 then
      itr2 (F_X8_weighWith_62 x1 x2 x3 x4 0 (fun h20 =>
        self (x4 + 1) h20)) N0 0 h7
    else
      bnd (f_X8_weightAt x1 x2 h7) fun v22 h21 =>
      if inb (((x3 + 5) + 1) + x4) 78 = true then
      lt (v22 * (h21.2.1 139 ((((x3 + 5) + 1) + x4).toNatClampNeg))) fun v24 =>
      itr2 (F_X8_weighWith_62 x1 x2 x3 x4 v24 (fun h25 =>
        self (x4 + 1) h25)) N0 0 h21
      else none)
    else none)
  else none
def f_X8_weighWith (x1 : Int32) (x2 : Int32) (h : Hp) : Option Hp :=
  lt (x1 * 6) fun v1 =>
  itr2 (F_X8_weighWith_8 x1 x2 v1 (fun h26 =>
    some h26)) N0 0 h
def B_X8_weighAll_50 (k57 : Hp → Option Hp) (self : Int32 → Hp → Option Hp) (x1 : Int32) (t0 : Int64) (t1 : Int32) (h : Hp) : Option Hp :=
  if inb t1 78 = true then
  lt (sL h 139 (t1.toNatClampNeg) t0) fun h11 =>
  self (x1 + 1) h11
  else none
def F_X8_weighAll_10 (k57 : Hp → Option Hp) (self : Int32 → Hp → Option Hp) (x1 : Int32) (h : Hp) : Option Hp :=
  lt (h.2.2 133 7) fun r2 =>
  if isO 8 r2 = true then
  (if (h.1 r2 0) ≤ x1 then
    k57 h
  else
    lt (h.2.2 133 7) fun r5 =>
    if isO 8 r5 = true then
    bnd (f_X10_mayEnd r5 x1 h) fun v8 h7 =>
    (if v8 = 0 then
      B_X8_weighAll_50 k57 self x1 0 (((h.1 133 9) * 6) + x1) h7
    else
      B_X8_weighAll_50 k57 self x1 1 (((h.1 133 9) * 6) + x1) h7)
    else none)
  else none
def F_X8_weighAll_70 (x1 : Int32) (k102 : Hp → Option Hp) (self : Int32 → Hp → Option Hp) (x2 : Int32) (h : Hp) : Option Hp :=
  lt (h.2.2 133 7) fun r15 =>
  if isO 8 r15 = true then
  (if (h.1 r15 2) ≤ x2 then
    k102 h
  else
    bnd (f_X8_mayStandAt x1 x2 h) fun v19 h18 =>
    (if v19 = 0 then
      self (x2 + 1) h18
    else
      bnv (f_X8_weighWith x1 x2 h18) fun h21 =>
      self (x2 + 1) h21))
  else none
def F_X8_weighAll_64 (k108 : Hp → Option Hp) (self : Int32 → Hp → Option Hp) (x1 : Int32) (h : Hp) : Option Hp :=
  if x1 < 0 then
    k108 h
  else
    itr2 (F_X8_weighAll_70 x1 (fun h22 =>
      self (x1 + (-1)) h22)) N0 0 h
def f_X8_weighAll (h : Hp) : Option Hp :=
  bnv (f_J7_fill_d0a16 139 0 h) fun h1 =>
  itr2 (F_X8_weighAll_10 (fun h12 =>
    lt ((h12.1 133 9) - 1) fun v13 =>
    itr2 (F_X8_weighAll_64 (fun h23 =>
      some h23)) N0 v13 h12)) N0 0 h1
def B_X8_look_74 (x2 : Nat) (x3 : Int32) (k96 : Hp → Option Hp) (self : Int32 → Int32 → Hp → Option Hp) (x5 : Int32) (x6 : Int32) (x7 : Int32) (t0 : Int32) (t1 : Int32) (h : Hp) : Option Hp :=
  if inb t1 12 = true then
  lt (sI h 136 (t1.toNatClampNeg) t0) fun h13 =>
  (if x7 = 0 then
    self (x5 + 1) (x6 + 1) h13
  else
    self (x5 + 0) (x6 + 1) h13)
  else none
def F_X8_look_27 (x2 : Nat) (x3 : Int32) (k96 : Hp → Option Hp) (self : Int32 → Int32 → Hp → Option Hp) (x5 : Int32) (x6 : Int32) (h : Hp) : Option Hp :=
  if (h.1 133 9) ≤ x6 then
    k96 h
  else
    lt (h.2.2 133 7) fun r5 =>
    if isO 8 r5 = true then
    bnd (f_X1_strikes (r5 + 2) x3 (x6 + 1) h) fun v8 h7 =>
    (if v8 = 0 then
      bnd (f_X7_atOrNone x2 x5 h7) fun v11 h10 =>
      B_X8_look_74 x2 x3 k96 self x5 x6 v8 v11 x6 h10
    else
      B_X8_look_74 x2 x3 k96 self x5 x6 v8 (-1) x6 h7)
    else none
def f_X8_look (x1 : Nat) (x2 : Nat) (x3 : Int32) (x4 : Int32) (h : Hp) : Option Hp :=
  lt (sI h 133 0 1) fun h1 =>
  lt (sR h1 133 7 x1) fun h2 =>
  lt (sI h2 133 9 (jmin x4 12)) fun h3 =>
  itr3 (F_X8_look_27 x2 x3 (fun h15 =>
    bnv (f_X8_countAll h15) fun h16 =>
    bnv (f_X8_tellSure h16) fun h17 =>
    bnv (f_X8_weighAll h17) fun h18 =>
    lt (sL h18 133 5 (h18.2.1 139 ((5 : Int32).toNatClampNeg))) fun h19 =>
    (if (lg_cmp (h19.2.1 133 5) 0) ≤ 0 then
      some h19
    else
      bnv (f_X8_chooseRow h19) fun h21 =>
      some h21))) N0 0 0 h3
def f_X10_hasSaying (x0 : Nat) (x1 : Int32) (h : Hp) : Option (Int32 × Hp) :=
  if x1 < 0 then
    some (0, h)
  else
    if (h.1 x0 2) ≤ x1 then
      some (0, h)
    else
      some (1, h)
def f_X10_hasSort (x0 : Nat) (x1 : Int32) (h : Hp) : Option (Int32 × Hp) :=
  if x1 < 0 then
    some (0, h)
  else
    if (h.1 x0 0) ≤ x1 then
      some (0, h)
    else
      some (1, h)
def f_X10_isTold (x0 : Nat) (x1 : Int32) (x2 : Int32) (x3 : Int32) (h : Hp) : Option (Int32 × Hp) :=
  if x1 = 0 then
    bnd (f_X10_readsAs x0 x2 x3 h) fun v3 h2 =>
    if isZ v3 = true then
    some (v3, h2)
    else none
  else
    bnd (f_X10_mayFollow x0 x2 x3 h) fun v6 h5 =>
    if isZ v6 = true then
    some (v6, h5)
    else none
def f_X10_turnTold (x0 : Nat) (x1 : Int32) (x2 : Int32) (x3 : Int32) (h : Hp) : Option Hp :=
  if x1 = 0 then
    bnv (f_X10_turnReads x0 x2 x3 h) fun h2 =>
    some h2
  else
    bnv (f_X10_turnFollow x0 x2 x3 h) fun h3 =>
    some h3
def F_X10_readAlike_23 (x0 : Nat) (x1 : Int32) (x2 : Int32) (x3 : Int32) (k54 : Hp → Option (Int32 × Hp)) (k62 : Hp → Option (Int32 × Hp)) (self : Int32 → Hp → Option (Int32 × Hp)) (x4 : Int32) (h : Hp) : Option (Int32 × Hp) :=
  if x3 ≤ x4 then
    k62 h
  else
    if inb ((x1 * x3) + x4) 320 = true then
    if inb ((x2 * x3) + x4) 320 = true then
    (if (h.1 (x0 + 9) (((x1 * x3) + x4).toNatClampNeg)) = (h.1 (x0 + 9) (((x2 * x3) + x4).toNatClampNeg)) then
      self (x4 + 1) h
    else
      k54 h)
    else none
    else none
def f_X10_readAlike (x0 : Nat) (x1 : Int32) (x2 : Int32) (h : Hp) : Option (Int32 × Hp) :=
  if inb x1 8 = true then
  if inb x2 8 = true then
  (if (h.1 (x0 + 8) (x1.toNatClampNeg)) = (h.1 (x0 + 8) (x2.toNatClampNeg)) then
    itr2 (F_X10_readAlike_23 x0 x1 x2 40 (fun h8 =>
      some (0, h8)) (fun h9 =>
      some (1, h9))) N0 0 h
  else
    some (0, h))
  else none
  else none
def F_X10_allWeighs_4 (x0 : Nat) (k27 : Int32 → Hp → Option (Int32 × Hp)) (self : Int32 → Int32 → Hp → Option (Int32 × Hp)) (x1 : Int32) (x2 : Int32) (h : Hp) : Option (Int32 × Hp) :=
  if (h.1 x0 2) ≤ x2 then
    k27 x1 h
  else
    if inb x2 8 = true then
    lt (x1 + (h.1 (x0 + 6) (x2.toNatClampNeg))) fun v3 =>
    self v3 (x2 + 1) h
    else none
def f_X10_allWeighs (x0 : Nat) (h : Hp) : Option (Int32 × Hp) :=
  itr3 (F_X10_allWeighs_4 x0 (fun v5 h4 =>
    some (v5, h4))) N0 0 0 h
def F_X10_weighedAt_4 (x0 : Nat) (x1 : Int32) (k28 : Int32 → Hp → Option (Int32 × Hp)) (k36 : Hp → Option (Int32 × Hp)) (self : Int32 → Int32 → Hp → Option (Int32 × Hp)) (x2 : Int32) (x3 : Int32) (h : Hp) : Option (Int32 × Hp) :=
  if ((h.1 x0 2) - 1) ≤ x3 then
    k36 h
  else
    if inb x3 8 = true then
    lt (x2 + (h.1 (x0 + 6) (x3.toNatClampNeg))) fun v3 =>
    (if v3 ≤ x1 then
      self v3 (x3 + 1) h
    else
      k28 x3 h)
    else none
def f_X10_weighedAt (x0 : Nat) (x1 : Int32) (h : Hp) : Option (Int32 × Hp) :=
  itr3 (F_X10_weighedAt_4 x0 x1 (fun v6 h5 =>
    some (v6, h5)) (fun h7 =>
    some ((h7.1 x0 2) - 1, h7))) N0 0 0 h
def F_X12_putBytes_3 (x1 : Int32) (k27 : Hp → Option Hp) (self : Int32 → Hp → Option Hp) (x2 : Int32) (h : Hp) : Option Hp :=
  if x2 < 0 then
    k27 h
  else
    bnv (f_X7_put 2 ((jushr x1 x2) &&& 255) h) fun h2 =>
    self (x2 + (-8)) h2
def f_X12_putBytes (x1 : Int32) (h : Hp) : Option Hp :=
  itr2 (F_X12_putBytes_3 x1 (fun h3 =>
    some h3)) N0 24 h
def f_X12_feed (x1 : Int32) (x2 : Int32) (x3 : Int32) (x4 : Int32) (x5 : Int32) (h : Hp) : Option (Int32 × Hp) :=
  if ((h.1 2 1) + 20) ≤ 940 then
    bnv (f_X12_putBytes x1 h) fun h2 =>
    bnv (f_X12_putBytes x2 h2) fun h3 =>
    bnv (f_X12_putBytes x3 h3) fun h4 =>
    bnv (f_X12_putBytes x4 h4) fun h5 =>
    bnv (f_X12_putBytes x5 h5) fun h6 =>
    some (h6.1 2 1, h6)
  else
    some ((-1), h)
def f_X12_end (x1 : Int32) (h : Hp) : Option (Int32 × Hp) :=
  if x1 < 0 then
    some (0, h)
  else
    if x1 ≤ (h.1 2 1) then
      lt (sI h 2 1 x1) fun h3 =>
      some (1, h3)
    else
      some (0, h)
def f_X12_tongue (h : Hp) : Option (Int32 × Hp) :=
  bnd (f_X6_readTongue 2 142 h) fun v2 h1 =>
  lt (sI h1 2 1 0) fun h3 =>
  lt (sI h3 1 11 (h3.1 4 4)) fun h4 =>
  (if v2 < 0 then
    some (v2, h4)
  else
    bnv (f_X5_begin 6 142 h4) fun h6 =>
    some (v2, h6))
def f_X12_fault (h : Hp) : Option (Int32 × Hp) :=
  some (h.1 1 11, h)
def f_X12_isMeaning (x0 : Int32) (h : Hp) : Option (Int32 × Hp) :=
  if x0 < 0 then
    some (0, h)
  else
    if 8 ≤ x0 then
      some (0, h)
    else
      some (1, h)
def f_X12_becomes (x1 : Int32) (x2 : Int32) (x3 : Int32) (h : Hp) : Option (Int32 × Hp) :=
  bnd (f_X12_isMeaning x3 h) fun v2 h1 =>
  (if v2 = 0 then
    some ((-1), h1)
  else
    bnd (f_X10_hasSaying 7 x1 h1) fun v5 h4 =>
    (if v5 = 0 then
      some ((-1), h4)
    else
      bnd (f_X10_hasSort 7 x2 h4) fun v8 h7 =>
      (if v8 = 0 then
        some ((-1), h7)
      else
        bnd (f_X10_readsAs 7 x1 x2 h7) fun v11 h10 =>
        (if v11 = 0 then
          some ((-1), h10)
        else
          bnd (f_X10_made 7 x1 x2 x3 h10) fun v14 h13 =>
          some (v14, h13)))))
def f_X12_text (h : Hp) : Option (Int32 × Hp) :=
  bnd (f_X6_readText 2 7 153 h) fun v2 h1 =>
  lt (sI h1 2 1 0) fun h3 =>
  lt (sI h3 1 11 (h3.1 4 4)) fun h4 =>
  (if v2 < 0 then
    some (v2, h4)
  else
    bnv (f_X7_copyFrom 18 153 h4) fun h6 =>
    some (v2, h6))
def F_X12_rowFromTape_33 (x2 : Int32) (k60 : Hp → Option (Int32 × Hp)) (k84 : Hp → Option (Int32 × Hp)) (self : Int32 → Hp → Option (Int32 × Hp)) (x3 : Int32) (h : Hp) : Option (Int32 × Hp) :=
  if x2 ≤ x3 then
    k84 h
  else
    if inb x3 940 = true then
    bnd (f_X10_hasSaying 7 (h.1 3 (x3.toNatClampNeg)) h) fun v8 h7 =>
    (if v8 = 0 then
      k60 h7
    else
      if inb x3 940 = true then
      bnv (f_X7_put 153 (h7.1 3 (x3.toNatClampNeg)) h7) fun h11 =>
      self (x3 + 1) h11
      else none)
    else none
def f_X12_rowFromTape (x1 : Int32) (h : Hp) : Option (Int32 × Hp) :=
  lt (h.1 2 1) fun v1 =>
  lt (sI h 2 1 0) fun h2 =>
  lt (sI h2 153 1 0) fun h3 =>
  (if v1 ≤ x1 then
    itr2 (F_X12_rowFromTape_33 v1 (fun h12 =>
      some (0, h12)) (fun h13 =>
      some (1, h13))) N0 0 h3
  else
    some (0, h3))
def f_X12_lay (h : Hp) : Option (Int32 × Hp) :=
  bnd (f_X12_rowFromTape 24 h) fun v2 h1 =>
  (if v2 = 0 then
    some ((-1), h1)
  else
    bnv (f_X7_copyFrom 18 153 h1) fun h4 =>
    some (h4.1 18 1, h4))
def F_X12_alike_23 (x1 : Int32) (k55 : Int32 → Hp → Option (Int32 × Hp)) (self : Int32 → Int32 → Hp → Option (Int32 × Hp)) (x3 : Int32) (x4 : Int32) (h : Hp) : Option (Int32 × Hp) :=
  if (h.1 7 2) ≤ x4 then
    k55 x3 h
  else
    bnd (f_X10_readAlike 7 x1 x4 h) fun v6 h5 =>
    (if v6 = 0 then
      self x3 (x4 + 1) h5
    else
      lt (x3 ||| (jshl 1 x4)) fun v8 =>
      self v8 (x4 + 1) h5)
def f_X12_alike (x1 : Int32) (h : Hp) : Option (Int32 × Hp) :=
  bnd (f_X10_hasSaying 7 x1 h) fun v2 h1 =>
  (if v2 = 0 then
    some ((-1), h1)
  else
    itr3 (F_X12_alike_23 x1 (fun v10 h9 =>
      some (v10, h9))) N0 0 0 h1)
def F_X12_drawn_49 (x1 : Int32) (x4 : Int32) (k94 : Hp → Option (Int32 × Hp)) (self : Int32 → Int32 → Hp → Option (Int32 × Hp)) (x5 : Int32) (x6 : Int32) (h : Hp) : Option (Int32 × Hp) :=
  if x1 ≤ x6 then
    k94 h
  else
    lt ((x5 * 1103515245) + 12345) fun v8 =>
    if nz x4 = true then
    bnd (f_X10_weighedAt 7 (jrem (jushr v8 8) x4) h) fun v11 h10 =>
    bnv (f_X7_put 18 v11 h10) fun h12 =>
    self v8 (x6 + 1) h12
    else none
def f_X12_drawn (x1 : Int32) (x2 : Int32) (h : Hp) : Option (Int32 × Hp) :=
  bnd (f_X10_allWeighs 7 h) fun v2 h1 =>
  (if x1 < 1 then
    some ((-1), h1)
  else
    if 24 < x1 then
      some ((-1), h1)
    else
      if 0 < v2 then
        lt (sI h1 18 1 0) fun h6 =>
        itr3 (F_X12_drawn_49 x1 v2 (fun h13 =>
          some (x1, h13))) N0 x2 0 h6
      else
        some ((-1), h1))
def f_X12_isBeginning (x1 : Int32) (h : Hp) : Option (Int32 × Hp) :=
  if x1 < 1 then
    some (0, h)
  else
    if (h.1 9 0) < x1 then
      some (0, h)
    else
      some (1, h)
def f_X12_isBeginningOrAll (x1 : Int32) (h : Hp) : Option (Int32 × Hp) :=
  if x1 = 0 then
    some (1, h)
  else
    bnd (f_X12_isBeginning x1 h) fun v3 h2 =>
    (if v3 = 0 then
      some (0, h2)
    else
      some (1, h2))
def f_X12_left (x1 : Int32) (h : Hp) : Option (Int32 × Hp) :=
  bnd (f_X12_isBeginningOrAll x1 h) fun v2 h1 =>
  (if v2 = 0 then
    some ((-1), h1)
  else
    bnd (f_X3_strike 6 x1 h1) fun r5 h4 =>
    if isO 5 r5 = true then
    some (h4.1 r5 1, h4)
    else none)
def f_X12_leftAt (x1 : Int32) (x2 : Int32) (h : Hp) : Option (Int32 × Hp) :=
  bnd (f_X12_isBeginningOrAll x1 h) fun v2 h1 =>
  (if v2 = 0 then
    some ((-1), h1)
  else
    bnd (f_X3_strike 6 x1 h1) fun r5 h4 =>
    if isO 5 r5 = true then
    bnd (f_X7_atOrNone r5 x2 h4) fun v8 h7 =>
    some (v8, h7)
    else none)
def f_X12_means (x1 : Int32) (h : Hp) : Option (Int32 × Hp) :=
  bnd (f_X12_isBeginningOrAll x1 h) fun v2 h1 =>
  (if v2 = 0 then
    some ((-1), h1)
  else
    bnd (f_X3_meansBy 7 18 x1 h1) fun v5 h4 =>
    some (v5, h4))
def f_X12_readings (x1 : Int32) (h : Hp) : Option (Int64 × Hp) :=
  bnd (f_X12_isBeginningOrAll x1 h) fun v2 h1 =>
  (if v2 = 0 then
    some ((-1), h1)
  else
    bnd (f_X3_strike 6 x1 h1) fun r5 h4 =>
    if isO 5 r5 = true then
    bnd (f_X3_countReadings 7 r5 h4) fun v8 h7 =>
    some (v8, h7)
    else none)
def f_X12_sortAt (x1 : Int32) (x2 : Int32) (h : Hp) : Option (Int32 × Hp) :=
  bnd (f_X12_isBeginningOrAll x1 h) fun v2 h1 =>
  (if v2 = 0 then
    some ((-1), h1)
  else
    bnd (f_X3_strike 6 x1 h1) fun r5 h4 =>
    if isO 5 r5 = true then
    (if x2 < 0 then
      some ((-1), h4)
    else
      if (h4.1 r5 1) ≤ x2 then
        some ((-1), h4)
      else
        bnd (f_X3_readFirst 7 r5 h4) fun v10 h9 =>
        (if v10 = 0 then
          some ((-1), h9)
        else
          bnd (f_X3_sortRead x2 h9) fun v13 h12 =>
          some (v13, h12)))
    else none)
def f_X12_turns (h : Hp) : Option (Int32 × Hp) :=
  bnd (f_X3_turnsOf 7 18 h) fun v2 h1 =>
  some (v2, h1)
def B_X12_areAgainst_53 (x4 : Int32) (t0 : Int32) (h : Hp) : Option (Int32 × Hp) :=
  if x4 = 0 then
    if t0 = 0 then
      some (0, h)
    else
      some (1, h)
  else
    some (1, h)
def B_X12_areAgainst_33 (x0 : Int32) (x1 : Int32) (x3 : Int32) (t0 : Int32) (h : Hp) : Option (Int32 × Hp) :=
  if (x1 &&& x3) = x1 then
    if (x0 &&& x3) = 0 then
      B_X12_areAgainst_53 t0 1 h
    else
      B_X12_areAgainst_53 t0 0 h
  else
    B_X12_areAgainst_53 t0 0 h
def f_X12_areAgainst (x0 : Int32) (x1 : Int32) (x2 : Int32) (h : Hp) : Option (Int32 × Hp) :=
  if x0 = 0 then
    some (0, h)
  else
    if x1 = 0 then
      some (0, h)
    else
      bnd (f_X12_meaningsWith x2 h) fun v4 h3 =>
      (if (x0 &&& v4) = x0 then
        if (x1 &&& v4) = 0 then
          B_X12_areAgainst_33 x0 x1 v4 1 h3
        else
          B_X12_areAgainst_33 x0 x1 v4 0 h3
      else
        B_X12_areAgainst_33 x0 x1 v4 0 h3)
def F_X12_against_48 (x1 : Int32) (x2 : Int32) (k110 : Int32 → Hp → Option (Int32 × Hp)) (self : Int32 → Int32 → Hp → Option (Int32 × Hp)) (x3 : Int32) (x4 : Int32) (h : Hp) : Option (Int32 × Hp) :=
  if (h.1 9 0) < x4 then
    k110 x3 h
  else
    bnd (f_X3_meansBy 7 18 x4 h) fun v7 h6 =>
    bnd (f_X12_areAgainst x2 v7 x1 h6) fun v9 h8 =>
    (if v9 = 0 then
      self x3 (x4 + 1) h8
    else
      lt (x3 ||| (jshl 1 x4)) fun v11 =>
      self v11 (x4 + 1) h8)
def f_X12_against (x1 : Int32) (h : Hp) : Option (Int32 × Hp) :=
  if x1 < 0 then
    some ((-1), h)
  else
    if x1 < (h.1 7 1) then
      bnd (f_X3_meansBy 7 18 0 h) fun v4 h3 =>
      itr3 (F_X12_against_48 x1 v4 (fun v13 h12 =>
        some (v13, h12))) N0 0 1 h3
    else
      some ((-1), h)
def f_X12_twice (x1 : Int32) (x2 : Int32) (h : Hp) : Option (Int32 × Hp) :=
  bnd (f_X12_isBeginning x1 h) fun v2 h1 =>
  (if v2 = 0 then
    some ((-1), h1)
  else
    bnd (f_X12_isBeginning x2 h1) fun v5 h4 =>
    (if v5 = 0 then
      some ((-1), h4)
    else
      bnd (f_X3_strike 6 x1 h4) fun r8 h7 =>
      if isO 5 r8 = true then
      bnd (f_X3_meansBy 7 r8 x2 h7) fun v11 h10 =>
      some (v11, h10)
      else none))
def F_X12_standIn_38 (x1 : Int32) (k102 : Int32 → Hp → Option (Int32 × Hp)) (self : Int32 → Int32 → Hp → Option (Int32 × Hp)) (x2 : Int32) (x3 : Int32) (h : Hp) : Option (Int32 × Hp) :=
  if (h.1 7 2) ≤ x3 then
    k102 x2 h
  else
    if inb x1 24 = true then
    lt (sI h 154 (x1.toNatClampNeg) x3) fun h6 =>
    bnd (f_X3_meanTheSame 7 18 153 h6) fun v8 h7 =>
    (if v8 = 0 then
      self x2 (x3 + 1) h7
    else
      lt (x2 ||| (jshl 1 x3)) fun v10 =>
      self v10 (x3 + 1) h7)
    else none
def f_X12_standIn (x1 : Int32) (h : Hp) : Option (Int32 × Hp) :=
  if x1 < 0 then
    some ((-1), h)
  else
    if x1 < (h.1 18 1) then
      bnv (f_X7_copyFrom 153 18 h) fun h3 =>
      itr3 (F_X12_standIn_38 x1 (fun v12 h11 =>
        some (v12, h11))) N0 0 0 h3
    else
      some ((-1), h)
def F_X12_safe_25 (x1 : Int32) (k68 : Hp → Option (Int32 × Hp)) (k76 : Hp → Option (Int32 × Hp)) (self : Int32 → Hp → Option (Int32 × Hp)) (x2 : Int32) (h : Hp) : Option (Int32 × Hp) :=
  if (h.1 9 0) < x2 then
    k76 h
  else
    bnd (f_X3_meansBy 7 18 x2 h) fun v5 h4 =>
    (if v5 = x1 then
      self (x2 + 1) h4
    else
      k68 h4)
def f_X12_safe (h : Hp) : Option (Int32 × Hp) :=
  bnd (f_X3_meansBy 7 18 1 h) fun v2 h1 =>
  itr2 (F_X12_safe_25 v2 (fun h7 =>
    some ((-1), h7)) (fun h8 =>
    bnd (f_J6_bitCount_0f7a4 v2 h8) fun v10 h9 =>
    (if v10 = 1 then
      bnd (f_J6_bitCount_0f7a4 (v2 - 1) h9) fun v13 h12 =>
      some (v13, h12)
    else
      some ((-1), h9)))) N0 2 h1
def F_X12_scans_17 (x1 : Int32) (k72 : Int32 → Hp → Option (Int32 × Hp)) (self : Int32 → Int32 → Hp → Option (Int32 × Hp)) (x2 : Int32) (x3 : Int32) (h : Hp) : Option (Int32 × Hp) :=
  if (h.1 9 0) < x3 then
    k72 x2 h
  else
    bnd (f_X3_beatsBy 7 18 x3 h) fun v5 h4 =>
    (if v5 = x1 then
      lt (x2 ||| (jshl 1 x3)) fun v7 =>
      self v7 (x3 + 1) h4
    else
      self x2 (x3 + 1) h4)
def f_X12_scans (x1 : Int32) (h : Hp) : Option (Int32 × Hp) :=
  if x1 < 0 then
    some ((-1), h)
  else
    if x1 ≤ 216 then
      itr3 (F_X12_scans_17 x1 (fun v9 h8 =>
        some (v9, h8))) N0 0 0 h
    else
      some ((-1), h)
def f_X12_letters (x1 : Int32) (h : Hp) : Option (Int64 × Hp) :=
  bnd (f_X12_isBeginningOrAll x1 h) fun v2 h1 =>
  (if v2 = 0 then
    some ((-1), h1)
  else
    bnd (f_X3_waysOfLetters 7 18 x1 h1) fun v5 h4 =>
    some (v5, h4))
def F_X12_goalsFromTape_52 (x1 : Int32) (k71 : Hp → Option (Int32 × Hp)) (k96 : Hp → Option (Int32 × Hp)) (self : Int32 → Hp → Option (Int32 × Hp)) (x2 : Int32) (h : Hp) : Option (Int32 × Hp) :=
  if x1 ≤ x2 then
    k96 h
  else
    if inb x2 940 = true then
    (if (h.1 3 (x2.toNatClampNeg)) ≤ 9 then
      if inb x2 940 = true then
      bnv (f_X2_want x2 (h.1 3 (x2.toNatClampNeg)) h) fun h9 =>
      self (x2 + 1) h9
      else none
    else
      k71 h)
    else none
def f_X12_goalsFromTape (h : Hp) : Option (Int32 × Hp) :=
  lt (h.1 2 1) fun v1 =>
  lt (sI h 2 1 0) fun h2 =>
  (if v1 = ((h2.1 9 0) + 1) then
    if (h2.1 7 2) = 0 then
      some (0, h2)
    else
      itr2 (F_X12_goalsFromTape_52 v1 (fun h10 =>
        some (0, h10)) (fun h11 =>
        some (1, h11))) N0 0 h2
  else
    some (0, h2))
def f_X12_findWithBeats (x1 : Int32) (x2 : Int32) (h : Hp) : Option (Int32 × Hp) :=
  bnd (f_X12_goalsFromTape h) fun v2 h1 =>
  (if v2 = 0 then
    some ((-2), h1)
  else
    if x2 < 1 then
      some ((-2), h1)
    else
      if x2 ≤ 6 then
        bnv (f_X2_wantBeats x1 h1) fun h6 =>
        bnd (f_X2_seekShortest 7 9 x2 h6) fun v8 h7 =>
        bnv (f_X2_wantBeats (-1) h7) fun h9 =>
        (if v8 ≤ 0 then
          some (v8, h9)
        else
          bnd (f_X2_foundRow h9) fun r12 h11 =>
          if isO 5 r12 = true then
          bnv (f_X7_copyFrom 140 r12 h11) fun h14 =>
          some (v8, h14)
          else none)
      else
        some ((-2), h1))
def f_X12_find (x1 : Int32) (h : Hp) : Option (Int32 × Hp) :=
  bnd (f_X12_findWithBeats (-1) x1 h) fun v2 h1 =>
  some (v2, h1)
def f_X12_cheapest (x1 : Int32) (h : Hp) : Option (Int32 × Hp) :=
  bnd (f_X12_goalsFromTape h) fun v2 h1 =>
  (if v2 = 0 then
    some ((-2), h1)
  else
    if x1 < 1 then
      some ((-2), h1)
    else
      if x1 ≤ 5 then
        bnd (f_X2_seekCheapest 7 x1 h1) fun v7 h6 =>
        (if v7 < 0 then
          some (v7, h6)
        else
          bnv (f_X7_copyFrom 140 131 h6) fun h9 =>
          some (v7, h9))
      else
        some ((-2), h1))
def B_X12_verse_10 (h : Hp) : Option (Int32 × Hp) :=
  lt (sI h 2 1 0) fun h2 =>
  some ((-2), h2)
def f_X12_verse (x1 : Int32) (x2 : Int32) (h : Hp) : Option (Int32 × Hp) :=
  if x1 < 0 then
    B_X12_verse_10 h
  else
    if x1 ≤ 54 then
      bnd (f_X12_findWithBeats x1 x2 h) fun v5 h4 =>
      some (v5, h4)
    else
      B_X12_verse_10 h
def f_X12_longer (x1 : Int32) (x2 : Int32) (h : Hp) : Option (Int32 × Hp) :=
  bnd (f_X12_isMeaning x1 h) fun v2 h1 =>
  (if v2 = 0 then
    some ((-7), h1)
  else
    if x2 < 1 then
      some ((-7), h1)
    else
      if x2 ≤ 6 then
        bnv (f_X2_wantByAll x1 9 h1) fun h6 =>
        bnd (f_X2_seekShortest 7 9 x2 h6) fun v8 h7 =>
        bnv (f_X2_wantByAll 9 x1 h7) fun h9 =>
        bnd (f_X2_seekShortest 7 9 x2 h9) fun v11 h10 =>
        (if v8 < 0 then
          some ((-7), h10)
        else
          if 0 ≤ v11 then
            some (v11 - v8, h10)
          else
            some ((-7), h10))
      else
        some ((-7), h1))
def f_X12_foundAt (x1 : Int32) (h : Hp) : Option (Int32 × Hp) :=
  bnd (f_X7_atOrNone 140 x1 h) fun v2 h1 =>
  some (v2, h1)
def f_X12_sayable (x1 : Int32) (h : Hp) : Option (Int32 × Hp) :=
  if x1 < 1 then
    some ((-1), h)
  else
    if x1 ≤ 5 then
      bnd (f_X2_collectSafe 7 x1 h) fun v4 h3 =>
      some (v4, h3)
    else
      some ((-1), h)
def B_X12_mostSayableWith_140 (x1 : Int32) (x2 : Int32) (x6 : Int32) (x7 : Int32) (k157 : Int32 → Int32 → Hp → Option (Int32 × Hp)) (self : Int32 → Int32 → Int32 → Hp → Option (Int32 × Hp)) (x4 : Int32) (x8 : Int32) (x9 : Int32) (t0 : Int32) (h : Hp) : Option (Int32 × Hp) :=
  lt (jmax x4 x9) fun v21 =>
  self v21 t0 (x8 + 1) h
def F_X12_mostSayableWith_67 (x1 : Int32) (x2 : Int32) (x6 : Int32) (x7 : Int32) (k157 : Int32 → Int32 → Hp → Option (Int32 × Hp)) (self : Int32 → Int32 → Int32 → Hp → Option (Int32 × Hp)) (x4 : Int32) (x5 : Int32) (x8 : Int32) (h : Hp) : Option (Int32 × Hp) :=
  if (h.1 7 0) ≤ x8 then
    k157 x4 x5 h
  else
    bnd (f_X10_isTold 7 x1 x7 x8 h) fun v12 h11 =>
    (if v12 = 0 then
      bnv (f_X10_turnTold 7 x1 x7 x8 h11) fun h14 =>
      bnd (f_X2_collectSafe 7 x2 h14) fun v16 h15 =>
      bnd (f_J6_bitCount_0f7a4 v16 h15) fun v18 h17 =>
      bnv (f_X10_turnTold 7 x1 x7 x8 h17) fun h19 =>
      (if v18 ≤ x4 then
        B_X12_mostSayableWith_140 x1 x2 x6 x7 k157 self x4 x8 v18 x5 h19
      else
        B_X12_mostSayableWith_140 x1 x2 x6 x7 k157 self x4 x8 v18 ((10 * x7) + x8) h19)
    else
      self x4 x5 (x8 + 1) h11)
def F_X12_mostSayableWith_57 (x1 : Int32) (x2 : Int32) (x6 : Int32) (k163 : Int32 → Hp → Option (Int32 × Hp)) (self : Int32 → Int32 → Int32 → Hp → Option (Int32 × Hp)) (x4 : Int32) (x5 : Int32) (x7 : Int32) (h : Hp) : Option (Int32 × Hp) :=
  if x6 ≤ x7 then
    k163 x5 h
  else
    itr4 (F_X12_mostSayableWith_67 x1 x2 x6 x7 (fun v23 v24 h22 =>
      self v23 v24 (x7 + 1) h22)) N0 x4 x5 0 h
def f_X12_mostSayableWith (x1 : Int32) (x2 : Int32) (h : Hp) : Option (Int32 × Hp) :=
  if x2 < 1 then
    some ((-1), h)
  else
    if x2 ≤ 4 then
      bnd (f_X2_collectSafe 7 x2 h) fun v4 h3 =>
      bnd (f_J6_bitCount_0f7a4 v4 h3) fun v6 h5 =>
      (if x1 = 0 then
        lt (h5.1 7 2) fun v8 =>
        itr4 (F_X12_mostSayableWith_57 x1 x2 v8 (fun v26 h25 =>
          some (v26, h25))) N0 v6 (-1) 0 h5
      else
        lt (h5.1 7 0) fun v27 =>
        itr4 (F_X12_mostSayableWith_57 x1 x2 v27 (fun v29 h28 =>
          some (v29, h28))) N0 v6 (-1) 0 h5)
    else
      some ((-1), h)
def f_X12_link (x1 : Int32) (h : Hp) : Option (Int32 × Hp) :=
  bnd (f_X12_mostSayableWith 1 x1 h) fun v2 h1 =>
  some (v2, h1)
def f_X12_lend (x1 : Int32) (h : Hp) : Option (Int32 × Hp) :=
  bnd (f_X12_mostSayableWith 0 x1 h) fun v2 h1 =>
  some (v2, h1)
def B_X12_other_25 (x1 : Int32) (x2 : Int32) (x3 : Int32) (x4 : Int32) (t0 : Int32) (h : Hp) : Option (Int32 × Hp) :=
  if t0 = 0 then
    some ((-2), h)
  else
    bnd (f_X12_isMeaning x3 h) fun v4 h3 =>
    (if v4 = 0 then
      some ((-2), h3)
    else
      if x4 < 1 then
        some ((-2), h3)
      else
        if x4 ≤ 6 then
          bnv (f_X2_wantByAll 9 x3 h3) fun h8 =>
          bnd (f_X2_seekShortestBy 7 x1 x2 x4 h8) fun v10 h9 =>
          some (v10, h9)
        else
          some ((-2), h3))
def f_X12_other (x1 : Int32) (x2 : Int32) (x3 : Int32) (x4 : Int32) (h : Hp) : Option (Int32 × Hp) :=
  if x1 < 2 then
    B_X12_other_25 x1 x2 x3 x4 0 h
  else
    if 5 < x1 then
      B_X12_other_25 x1 x2 x3 x4 0 h
    else
      if x2 < 1 then
        B_X12_other_25 x1 x2 x3 x4 0 h
      else
        if x1 ≤ x2 then
          B_X12_other_25 x1 x2 x3 x4 0 h
        else
          B_X12_other_25 x1 x2 x3 x4 1 h
def f_X12_mend (h : Hp) : Option (Int32 × Hp) :=
  if (h.1 18 1) < 1 then
    some ((-2), h)
  else
    if (h.1 18 1) ≤ 10 then
      bnd (f_X2_seekMended 7 18 h) fun v4 h3 =>
      (if v4 < 0 then
        some (v4, h3)
      else
        bnd (f_X2_foundRow h3) fun r7 h6 =>
        if isO 5 r7 = true then
        bnv (f_X7_copyFrom 140 r7 h6) fun h9 =>
        some (v4, h9)
        else none)
    else
      some ((-2), h)
def f_X12_torn (x1 : Int32) (x2 : Int32) (h : Hp) : Option (Int64 × Hp) :=
  bnd (f_X12_rowFromTape 12 h) fun v2 h1 =>
  (if v2 = 0 then
    some ((-1), h1)
  else
    bnd (f_X12_isBeginning x1 h1) fun v5 h4 =>
    (if v5 = 0 then
      some ((-1), h4)
    else
      if x2 < 1 then
        some ((-1), h4)
      else
        if x2 ≤ 12 then
          bnd (f_X1_leftOf 9 x2 x1 h4) fun v10 h9 =>
          (if v10 = (h9.1 153 1) then
            bnv (f_X8_look 7 153 x1 x2 h9) fun h12 =>
            some (h12.2.1 133 1, h12)
          else
            some ((-1), h9))
        else
          some ((-1), h4)))
def f_X12_sure (x1 : Int32) (h : Hp) : Option (Int32 × Hp) :=
  if (h.1 133 0) = 0 then
    some ((-1), h)
  else
    if x1 = 0 then
      some (h.1 133 2, h)
    else
      if x1 = 1 then
        some (h.1 133 3, h)
      else
        if x1 = 2 then
          some (h.1 133 4, h)
        else
          some ((-1), h)
def f_X12_likeliest (h : Hp) : Option (Int64 × Hp) :=
  if (h.1 133 0) = 0 then
    some ((-1), h)
  else
    if (lg_cmp (h.2.1 133 5) 0) ≤ 0 then
      some (h.2.1 133 5, h)
    else
      bnv (f_X7_copyFrom 140 134 h) fun h3 =>
      some (h3.2.1 133 5, h3)
def f_X12_add (h : Hp) : Option (Int32 × Hp) :=
  if (h.1 6 3) < 10 then
    if inb (h.1 6 3) 10 = true then
    bnv (f_X7_copyFrom (20 + 1 + 2 * (h.1 6 3).toNatClampNeg) 18 h) fun h3 =>
    lt (sI h3 6 3 ((h3.1 6 3) + 1)) fun h4 =>
    some ((h4.1 6 3) - 1, h4)
    else none
  else
    some ((-1), h)
def f_X12_take (x1 : Int32) (h : Hp) : Option (Int32 × Hp) :=
  if x1 < 0 then
    some ((-1), h)
  else
    if x1 < (h.1 6 3) then
      if inb x1 10 = true then
      bnv (f_X7_copyFrom 18 (20 + 1 + 2 * x1.toNatClampNeg) h) fun h4 =>
      some (h4.1 18 1, h4)
      else none
    else
      some ((-1), h)
def B_X12_book_71 (x1 : Int32) (k83 : Int32 → Hp → Option (Int32 × Hp)) (self : Int32 → Int32 → Hp → Option (Int32 × Hp)) (x2 : Int32) (x3 : Int32) (h : Hp) : Option (Int32 × Hp) :=
  lt (x2 ||| (jshl 1 x3)) fun v10 =>
  self v10 (x3 + 1) h
def F_X12_book_14 (x1 : Int32) (k83 : Int32 → Hp → Option (Int32 × Hp)) (self : Int32 → Int32 → Hp → Option (Int32 × Hp)) (x2 : Int32) (x3 : Int32) (h : Hp) : Option (Int32 × Hp) :=
  if (h.1 6 3) ≤ x3 then
    k83 x2 h
  else
    if inb x3 10 = true then
    bnd (f_X3_turnsOf 7 (20 + 1 + 2 * x3.toNatClampNeg) h) fun v7 h6 =>
    (if x1 = 0 then
      if v7 = 0 then
        self x2 (x3 + 1) h6
      else
        B_X12_book_71 x1 k83 self x2 x3 h6
    else
      if ((jshr v7 x1) &&& 1) = 0 then
        self x2 (x3 + 1) h6
      else
        B_X12_book_71 x1 k83 self x2 x3 h6)
    else none
def f_X12_book (x1 : Int32) (h : Hp) : Option (Int32 × Hp) :=
  bnd (f_X12_isBeginningOrAll x1 h) fun v2 h1 =>
  (if v2 = 0 then
    some ((-1), h1)
  else
    itr3 (F_X12_book_14 x1 (fun v13 h12 =>
      some (v13, h12))) N0 0 0 h1)
def f_X12_image (x1 : Int32) (h : Hp) : Option (Int32 × Hp) :=
  if x1 < 0 then
    some (0, h)
  else
    if x1 < 2 then
      if inb x1 2 = true then
      bnv (f_X5_copyFrom (41 + 1 + 35 * x1.toNatClampNeg) 6 h) fun h4 =>
      if inb x1 2 = true then
      lt (sI h4 112 (x1.toNatClampNeg) (vp_nar .boolean 1)) fun h6 =>
      some (1, h6)
      else none
      else none
    else
      some (0, h)
def f_X12_restore (x1 : Int32) (h : Hp) : Option (Int32 × Hp) :=
  if x1 < 0 then
    some (0, h)
  else
    if 2 ≤ x1 then
      some (0, h)
    else
      if inb x1 2 = true then
      (if (h.1 112 (x1.toNatClampNeg)) = 0 then
        some (0, h)
      else
        if inb x1 2 = true then
        bnv (f_X5_copyFrom 6 (41 + 1 + 35 * x1.toNatClampNeg) h) fun h6 =>
        some (1, h6)
        else none)
      else none
def f_X12_count (x1 : Int32) (h : Hp) : Option (Int32 × Hp) :=
  if x1 = 0 then
    some (h.1 7 0, h)
  else
    if x1 = 1 then
      some (h.1 7 1, h)
    else
      if x1 = 2 then
        some (h.1 7 2, h)
      else
        if x1 = 3 then
          some (h.1 9 0, h)
        else
          if x1 = 4 then
            some (h.1 9 1, h)
          else
            if x1 = 5 then
              some (h.1 18 1, h)
            else
              if x1 = 6 then
                some (h.1 6 3, h)
              else
                if x1 = 7 then
                  some (h.1 2 1, h)
                else
                  some ((-1), h)
def F_X12_inLeastNumbers_2 (x0 : Int32) (x1 : Int32) (x2 : Int32) (k19 : Int32 → Hp → Option (Int32 × Hp)) (k29 : Hp → Option (Int32 × Hp)) (self : Int32 → Hp → Option (Int32 × Hp)) (x3 : Int32) (h : Hp) : Option (Int32 × Hp) :=
  if x3 ≤ 1 then
    k29 h
  else
    if nz x3 = true then
    (if (jrem x1 x3) = 0 then
      if nz x3 = true then
      (if (jrem x2 x3) = 0 then
        k19 x3 h
      else
        self (x3 + (-1)) h)
      else none
    else
      self (x3 + (-1)) h)
    else none
def f_X12_inLeastNumbers (x0 : Int32) (x1 : Int32) (x2 : Int32) (h : Hp) : Option (Int32 × Hp) :=
  itr2 (F_X12_inLeastNumbers_2 x0 x1 x2 (fun v7 h6 =>
    if nz v7 = true then
    some (x0 / v7, h6)
    else none) (fun h9 =>
    some (x0, h9))) N0 x2 h
def f_X13_thrown (h : Hp) : Option (Int32 × Hp) :=
  some (h.1 155 0, h)
def B_X13_throwsIf_10 (x1 : Int32) (t0 : Int32) (h : Hp) : Option (Int32 × Hp) :=
  lt (sI h 155 0 t0) fun h2 =>
  if isZ x1 = true then
  some (x1, h2)
  else none
def f_X13_throwsIf (x1 : Int32) (h : Hp) : Option (Int32 × Hp) :=
  if x1 = 0 then
    B_X13_throwsIf_10 x1 0 h
  else
    B_X13_throwsIf_10 x1 1 h
def F_X13_four_3 (x1 : Int32) (k36 : Hp → Option Hp) (self : Int32 → Hp → Option Hp) (x2 : Int32) (h : Hp) : Option Hp :=
  if x2 < 0 then
    k36 h
  else
    if inb (h.1 155 2) 940 = true then
    lt (sI h 156 ((h.1 155 2).toNatClampNeg) (vp_nar .byte ((jshr x1 x2).toInt8.toInt32))) fun h3 =>
    lt (sI h3 155 2 ((h3.1 155 2) + 1)) fun h4 =>
    self (x2 + (-8)) h4
    else none
def f_X13_four (x1 : Int32) (h : Hp) : Option Hp :=
  itr2 (F_X13_four_3 x1 (fun h5 =>
    some h5)) N0 24 h
def f_X13_feed (x1 : Int32) (x2 : Int32) (x3 : Int32) (x4 : Int32) (x5 : Int32) (h : Hp) : Option (Int32 × Hp) :=
  lt (sI h 155 0 0) fun h1 =>
  (if ((h1.1 155 2) + 20) ≤ 940 then
    bnv (f_X13_four x1 h1) fun h3 =>
    bnv (f_X13_four x2 h3) fun h4 =>
    bnv (f_X13_four x3 h4) fun h5 =>
    bnv (f_X13_four x4 h5) fun h6 =>
    bnv (f_X13_four x5 h6) fun h7 =>
    some (h7.1 155 2, h7)
  else
    some ((-1), h1))
def f_X13_end (x1 : Int32) (h : Hp) : Option (Int32 × Hp) :=
  lt (sI h 155 0 0) fun h1 =>
  (if x1 < 0 then
    some (0, h1)
  else
    if x1 ≤ (h1.1 155 2) then
      lt (sI h1 155 2 x1) fun h4 =>
      some (1, h4)
    else
      some (0, h1))
def f_X13_taken (x1 : Int32) (h : Hp) : Option Hp :=
  lt (sI h 155 3 (h.1 155 2)) fun h1 =>
  lt (sI h1 155 2 0) fun h2 =>
  lt (sI h2 155 4 0) fun h3 =>
  lt (sI h3 155 5 x1) fun h4 =>
  some h4
def f_X13_isIn (x0 : Int32) (x1 : Int32) (x2 : Int32) (h : Hp) : Option (Int32 × Hp) :=
  if x0 < x1 then
    some (0, h)
  else
    if x2 < x0 then
      some (0, h)
    else
      some (1, h)
def f_X13_has (x0 : Int32) (x1 : Int32) (h : Hp) : Option (Int32 × Hp) :=
  if ((jshr x0 x1) &&& 1) = 1 then
    some (1, h)
  else
    some (0, h)
def f_X13_octet (x1 : Int32) (h : Hp) : Option (Int32 × Hp) :=
  if inb x1 940 = true then
  some ((h.1 156 (x1.toNatClampNeg)) &&& 255, h)
  else none
def F_X13_plainTongue_2 (k22 : Hp → Option Hp) (self : Int32 → Hp → Option Hp) (x1 : Int32) (h : Hp) : Option Hp :=
  if 437 ≤ x1 then
    k22 h
  else
    if inb x1 437 = true then
    lt (sI h 158 (x1.toNatClampNeg) 0) fun h3 =>
    self (x1 + 1) h3
    else none
def F_X13_plainTongue_38 (k60 : Hp → Option Hp) (self : Int32 → Hp → Option Hp) (x1 : Int32) (h : Hp) : Option Hp :=
  if 5 ≤ x1 then
    k60 h
  else
    if inb (432 + x1) 437 = true then
    lt (sI h 158 ((432 + x1).toNatClampNeg) 1) fun h9 =>
    self (x1 + 1) h9
    else none
def f_X13_plainTongue (h : Hp) : Option Hp :=
  itr2 (F_X13_plainTongue_2 (fun h4 =>
    lt (sI h4 158 ((3 : Int32).toNatClampNeg) 3) fun h5 =>
    lt (sI h5 158 ((4 : Int32).toNatClampNeg) 1) fun h6 =>
    itr2 (F_X13_plainTongue_38 (fun h10 =>
      some h10)) N0 0 h6)) N0 0 h
def f_X13_peek (h : Hp) : Option (Int32 × Hp) :=
  if (h.1 155 3) ≤ (h.1 155 4) then
    some ((-1), h)
  else
    if inb (h.1 155 4) 940 = true then
    some ((h.1 156 ((h.1 155 4).toNatClampNeg)) &&& 255, h)
    else none
def f_X13_isSmall (x0 : Int32) (h : Hp) : Option (Int32 × Hp) :=
  if x0 < 97 then
    some (0, h)
  else
    if 122 < x0 then
      some (0, h)
    else
      some (1, h)
def f_X13_isDigit (x0 : Int32) (h : Hp) : Option (Int32 × Hp) :=
  if x0 < 48 then
    some (0, h)
  else
    if 57 < x0 then
      some (0, h)
    else
      some (1, h)
def B_X13_next_18 (k31 : Hp → Option Hp) (self : Hp → Option Hp) (h : Hp) : Option Hp :=
  lt (sI h 155 4 ((h.1 155 4) + 1)) fun h4 =>
  self h4
def F_X13_next_0 (k31 : Hp → Option Hp) (self : Hp → Option Hp) (h : Hp) : Option Hp :=
  bnd (f_X13_peek h) fun v2 h1 =>
  (if v2 = 32 then
    B_X13_next_18 k31 self h1
  else
    bnd (f_X13_peek h1) fun v6 h5 =>
    (if v6 = 10 then
      B_X13_next_18 k31 self h5
    else
      k31 h5))
def B_X13_next_251 (x2 : Int32) (k274 : Int32 → Hp → Option Hp) (self : Int32 → Hp → Option Hp) (x3 : Int32) (h : Hp) : Option Hp :=
  lt (sI h 155 12 ((h.1 155 12) + 1)) fun h30 =>
  lt (sI h30 155 4 ((h30.1 155 4) + 1)) fun h31 =>
  self x3 h31
def B_X13_next_224 (x2 : Int32) (k274 : Int32 → Hp → Option Hp) (self : Int32 → Hp → Option Hp) (x3 : Int32) (h : Hp) : Option Hp :=
  if 2 ≤ (h.1 155 12) then
    B_X13_next_251 x2 k274 self x3 h
  else
    bnd (f_X13_peek h) fun v33 h32 =>
    lt (sI h32 155 13 (((10 * (h.1 155 13)) + v33) - 48)) fun h34 =>
    B_X13_next_251 x2 k274 self x3 h34
def B_X13_next_197 (x2 : Int32) (k274 : Int32 → Hp → Option Hp) (self : Int32 → Hp → Option Hp) (t0 : Int32) (h : Hp) : Option Hp :=
  if 6 ≤ (h.1 155 12) then
    B_X13_next_224 x2 k274 self t0 h
  else
    bnd (f_X13_peek h) fun v36 h35 =>
    lt (sL h35 155 16 ((jlshl (h.2.1 155 16) 8) ||| (v36.toInt64))) fun h37 =>
    B_X13_next_224 x2 k274 self t0 h37
def B_X13_next_177 (x2 : Int32) (k274 : Int32 → Hp → Option Hp) (self : Int32 → Hp → Option Hp) (x3 : Int32) (h : Hp) : Option Hp :=
  if x3 = 0 then
    B_X13_next_197 x2 k274 self 0 h
  else
    bnd (f_X13_peek h) fun v39 h38 =>
    bnd (f_X13_isSmall v39 h38) fun v41 h40 =>
    (if v41 = x2 then
      B_X13_next_197 x2 k274 self 1 h40
    else
      B_X13_next_197 x2 k274 self 0 h40)
def F_X13_next_157 (x2 : Int32) (k274 : Int32 → Hp → Option Hp) (self : Int32 → Hp → Option Hp) (x3 : Int32) (h : Hp) : Option Hp :=
  bnd (f_X13_peek h) fun v23 h22 =>
  bnd (f_X13_isSmall v23 h22) fun v25 h24 =>
  (if v25 = 0 then
    bnd (f_X13_peek h24) fun v44 h43 =>
    bnd (f_X13_isDigit v44 h43) fun v46 h45 =>
    (if v46 = 0 then
      k274 x3 h45
    else
      B_X13_next_177 x2 k274 self x3 h45)
  else
    B_X13_next_177 x2 k274 self x3 h24)
def B_X13_next_309 (t0 : Int32) (h : Hp) : Option Hp :=
  lt (sI h 155 10 t0) fun h51 =>
  some h51
def B_X13_next_293 (x2 : Int32) (t0 : Int32) (t1 : Int32) (h : Hp) : Option Hp :=
  if t1 ≤ t0 then
    if x2 = 0 then
      B_X13_next_309 2 h
    else
      B_X13_next_309 1 h
  else
    B_X13_next_309 4 h
def B_X13_next_140 (x1 : Int32) (h : Hp) : Option Hp :=
  bnd (f_X13_isSmall x1 h) fun v19 h18 =>
  lt (sL h18 155 16 0) fun h20 =>
  lt (sI h20 155 13 0) fun h21 =>
  itr2 (F_X13_next_157 v19 (fun v49 h48 =>
    if v49 = 0 then
      B_X13_next_309 4 h48
    else
      if v19 = 0 then
        B_X13_next_293 v19 2 (h48.1 155 12) h48
      else
        B_X13_next_293 v19 6 (h48.1 155 12) h48)) N0 1 h21
def B_X13_next_121 (x1 : Int32) (t0 : Int32) (h : Hp) : Option Hp :=
  lt (sI h 155 10 t0) fun h59 =>
  lt (sI h59 155 13 x1) fun h60 =>
  lt (sI h60 155 4 ((h60.1 155 4) + 1)) fun h61 =>
  some h61
def B_X13_next_80 (h : Hp) : Option Hp :=
  bnd (f_X13_peek h) fun v13 h12 =>
  (if 0 ≤ v13 then
    bnd (f_X13_isSmall v13 h12) fun v16 h15 =>
    (if v16 = 0 then
      bnd (f_X13_isDigit v13 h15) fun v56 h55 =>
      (if v56 = 0 then
        if v13 = 59 then
          B_X13_next_121 v13 3 h55
        else
          B_X13_next_121 v13 4 h55
      else
        B_X13_next_140 v13 h55)
    else
      B_X13_next_140 v13 h15)
  else
    lt (sI h12 155 10 0) fun h62 =>
    some h62)
def f_X13_next (h : Hp) : Option Hp :=
  itr1 (F_X13_next_0 (fun h8 =>
    lt (sI h8 155 11 (h8.1 155 4)) fun h9 =>
    lt (sI h9 155 12 0) fun h10 =>
    (if (h10.1 155 3) ≤ (h10.1 155 5) then
      B_X13_next_80 h10
    else
      if (h10.1 155 4) < (h10.1 155 5) then
        B_X13_next_80 h10
      else
        lt (sI h10 155 11 (h10.1 155 5)) fun h64 =>
        lt (sI h64 155 10 4) fun h65 =>
        some h65))) N0 h
def f_X13_bad (x1 : Int32) (h : Hp) : Option (Int32 × Hp) :=
  lt (sI h 155 14 x1) fun h1 =>
  lt (sI h1 155 15 (h1.1 155 11)) fun h2 =>
  some (0, h2)
def f_X13_isWord (x1 : Int64) (h : Hp) : Option (Int32 × Hp) :=
  if (h.1 155 10) = 1 then
    if (lg_cmp (h.2.1 155 16) x1) = 0 then
      some (1, h)
    else
      some (0, h)
  else
    some (0, h)
def f_X13_isSign (x1 : Int32) (h : Hp) : Option (Int32 × Hp) :=
  if (h.1 155 10) = 3 then
    if (h.1 155 13) = x1 then
      some (1, h)
    else
      some (0, h)
  else
    some (0, h)
def f_X13_sign (x1 : Int32) (h : Hp) : Option (Int32 × Hp) :=
  bnd (f_X13_isSign x1 h) fun v2 h1 =>
  (if v2 = 0 then
    bnd (f_X13_bad 1 h1) fun v6 h5 =>
    if isZ v6 = true then
    some (v6, h5)
    else none
  else
    bnv (f_X13_next h1) fun h4 =>
    some (1, h4))
def F_X13_isName_16 (k52 : Int32 → Hp → Option (Int32 × Hp)) (self : Int32 → Int32 → Hp → Option (Int32 × Hp)) (x1 : Int32) (x2 : Int32) (h : Hp) : Option (Int32 × Hp) :=
  if 16 ≤ x2 then
    k52 x1 h
  else
    if x1 = 0 then
      self 0 (x2 + 1) h
    else
      if inb x2 16 = true then
      (if (lg_cmp (h.2.1 155 16) (h.2.1 160 (x2.toNatClampNeg))) = 0 then
        self 0 (x2 + 1) h
      else
        self 1 (x2 + 1) h)
      else none
def f_X13_isName (h : Hp) : Option (Int32 × Hp) :=
  if (h.1 155 10) = 1 then
    itr3 (F_X13_isName_16 (fun v10 h9 =>
      if isZ v10 = true then
      some (v10, h9)
      else none)) N0 1 0 h
  else
    itr3 (F_X13_isName_16 (fun v7 h6 =>
      if isZ v7 = true then
      some (v7, h6)
      else none)) N0 0 0 h
def f_X13_takes (x1 : Int32) (x2 : Int32) (h : Hp) : Option (Int32 × Hp) :=
  if (h.1 155 10) = 2 then
    bnd (f_X13_isIn (h.1 155 13) x1 x2 h) fun v3 h2 =>
    (if v3 = 0 then
      bnd (f_X13_bad 2 h2) fun v8 h7 =>
      if isZ v8 = true then
      some (v8, h7)
      else none
    else
      lt (sI h2 155 17 (h2.1 155 13)) fun h5 =>
      bnv (f_X13_next h5) fun h6 =>
      some (1, h6))
  else
    bnd (f_X13_bad 1 h) fun v11 h10 =>
    if isZ v11 = true then
    some (v11, h10)
    else none
def F_X13_find_2 (x1 : Int32) (x2 : Int32) (k23 : Int32 → Hp → Option (Int32 × Hp)) (k31 : Hp → Option (Int32 × Hp)) (self : Int32 → Hp → Option (Int32 × Hp)) (x3 : Int32) (h : Hp) : Option (Int32 × Hp) :=
  if x2 ≤ x3 then
    k31 h
  else
    if inb (x1 + x3) 32 = true then
    (if (lg_cmp (h.2.1 159 ((x1 + x3).toNatClampNeg)) (h.2.1 155 16)) = 0 then
      k23 x3 h
    else
      self (x3 + 1) h)
    else none
def f_X13_find (x1 : Int32) (x2 : Int32) (h : Hp) : Option (Int32 × Hp) :=
  itr2 (F_X13_find_2 x1 x2 (fun v5 h4 =>
    some (v5, h4)) (fun h6 =>
    some ((-1), h6))) N0 0 h
def f_X13_takesName (x1 : Int32) (x2 : Int32) (h : Hp) : Option (Int32 × Hp) :=
  bnd (f_X13_isName h) fun v2 h1 =>
  (if v2 = 0 then
    bnd (f_X13_bad 1 h1) fun v13 h12 =>
    if isZ v13 = true then
    some (v13, h12)
    else none
  else
    bnd (f_X13_find x1 x2 h1) fun v5 h4 =>
    lt (sI h4 155 17 v5) fun h6 =>
    (if 0 ≤ (h6.1 155 17) then
      bnv (f_X13_next h6) fun h8 =>
      some (1, h8)
    else
      bnd (f_X13_bad 3 h6) fun v10 h9 =>
      if isZ v10 = true then
      some (v10, h9)
      else none))
def B_X13_fresh_58 (h : Hp) : Option (Int32 × Hp) :=
  bnd (f_X13_bad 3 h) fun v8 h7 =>
  if isZ v8 = true then
  some (v8, h7)
  else none
def f_X13_fresh (x1 : Int32) (h : Hp) : Option (Int32 × Hp) :=
  bnd (f_X13_isName h) fun v2 h1 =>
  (if v2 = 0 then
    bnd (f_X13_bad 1 h1) fun v20 h19 =>
    if isZ v20 = true then
    some (v20, h19)
    else none
  else
    bnd (f_X13_find 16 (h1.1 158 ((0 : Int32).toNatClampNeg)) h1) fun v5 h4 =>
    (if 0 ≤ v5 then
      B_X13_fresh_58 h4
    else
      bnd (f_X13_find 21 (h4.1 158 ((1 : Int32).toNatClampNeg)) h4) fun v11 h10 =>
      (if 0 ≤ v11 then
        B_X13_fresh_58 h10
      else
        bnd (f_X13_find 24 (h10.1 158 ((2 : Int32).toNatClampNeg)) h10) fun v14 h13 =>
        (if v14 < 0 then
          if inb x1 32 = true then
          lt (sL h13 159 (x1.toNatClampNeg) (h13.2.1 155 16)) fun h17 =>
          bnv (f_X13_next h17) fun h18 =>
          some (1, h18)
          else none
        else
          B_X13_fresh_58 h13))))
def f_X13_readClerk (h : Hp) : Option (Int32 × Hp) :=
  bnv (f_X13_next h) fun h1 =>
  (if (h1.1 155 10) = 2 then
    bnd (f_X13_isIn (h1.1 155 13) 1 (h1.1 158 ((3 : Int32).toNatClampNeg)) h1) fun v4 h3 =>
    (if v4 = 0 then
      bnd (f_X13_bad 2 h3) fun v21 h20 =>
      if isZ v21 = true then
      some (v21, h20)
      else none
    else
      bnd (f_X13_has (h3.1 155 19) (h3.1 155 13) h3) fun v7 h6 =>
      (if v7 = 0 then
        lt (sI h6 155 19 ((h6.1 155 19) ||| (jshl 1 (h6.1 155 13)))) fun h9 =>
        lt ((432 + (h9.1 155 13)) - 1) fun v10 =>
        bnv (f_X13_next h9) fun h11 =>
        bnd (f_X13_takes 0 9 h11) fun v13 h12 =>
        (if v13 = 0 then
          some (0, h12)
        else
          if inb v10 437 = true then
          lt (sI h12 158 (v10.toNatClampNeg) (h12.1 155 17)) fun h16 =>
          some (1, h16)
          else none)
      else
        bnd (f_X13_bad 3 h6) fun v18 h17 =>
        if isZ v18 = true then
        some (v18, h17)
        else none))
  else
    bnd (f_X13_bad 1 h1) fun v24 h23 =>
    if isZ v24 = true then
    some (v24, h23)
    else none)
def B_X13_readEdict_14 (h : Hp) : Option (Int32 × Hp) :=
  bnd (f_X13_bad 3 h) fun v3 h2 =>
  if isZ v3 = true then
  some (v3, h2)
  else none
def f_X13_readEdict (h : Hp) : Option (Int32 × Hp) :=
  if (h.1 155 20) = 0 then
    if (h.1 155 19) = 0 then
      lt (sI h 155 20 1) fun h6 =>
      bnv (f_X13_next h6) fun h7 =>
      bnd (f_X13_takes 2 5 h7) fun v9 h8 =>
      (if v9 = 0 then
        some (0, h8)
      else
        lt (sI h8 158 ((3 : Int32).toNatClampNeg) (h8.1 155 17)) fun h11 =>
        bnd (f_X13_takes 1 ((h11.1 155 17) - 1) h11) fun v13 h12 =>
        (if v13 = 0 then
          some (0, h12)
        else
          lt (sI h12 158 ((4 : Int32).toNatClampNeg) (h12.1 155 17)) fun h15 =>
          some (1, h15)))
    else
      B_X13_readEdict_14 h
  else
    B_X13_readEdict_14 h
def B_X13_readFollow_73 (h : Hp) : Option (Int32 × Hp) :=
  bnd (f_X13_bad 3 h) fun v13 h12 =>
  if isZ v13 = true then
  some (v13, h12)
  else none
def f_X13_readFollow (h : Hp) : Option (Int32 × Hp) :=
  bnv (f_X13_next h) fun h1 =>
  bnd (f_X13_takesName 16 (h1.1 158 ((0 : Int32).toNatClampNeg)) h1) fun v3 h2 =>
  (if v3 = 0 then
    some (0, h2)
  else
    lt (h2.1 155 17) fun v5 =>
    bnd (f_X13_isName h2) fun v7 h6 =>
    (if v7 = 0 then
      bnd (f_X13_bad 1 h6) fun v21 h20 =>
      if isZ v21 = true then
      some (v21, h20)
      else none
    else
      bnd (f_X13_find 16 (h6.1 158 ((0 : Int32).toNatClampNeg)) h6) fun v10 h9 =>
      (if v10 < 0 then
        B_X13_readFollow_73 h9
      else
        if inb ((15 + (5 * v5)) + v10) 437 = true then
        (if (h9.1 158 (((15 + (5 * v5)) + v10).toNatClampNeg)) = 1 then
          B_X13_readFollow_73 h9
        else
          if inb ((15 + (5 * v5)) + v10) 437 = true then
          lt (sI h9 158 (((15 + (5 * v5)) + v10).toNatClampNeg) 1) fun h18 =>
          bnv (f_X13_next h18) fun h19 =>
          some (1, h19)
          else none)
        else none)))
def B_X13_readReads_73 (h : Hp) : Option (Int32 × Hp) :=
  bnd (f_X13_bad 3 h) fun v13 h12 =>
  if isZ v13 = true then
  some (v13, h12)
  else none
def F_X13_readReads_112 (x3 : Int32) (k136 : Hp → Option (Int32 × Hp)) (self : Int32 → Hp → Option (Int32 × Hp)) (x4 : Int32) (h : Hp) : Option (Int32 × Hp) :=
  if 8 ≤ x4 then
    k136 h
  else
    if inb (x3 + x4) 437 = true then
    lt (sI h 158 ((x3 + x4).toNatClampNeg) x4) fun h23 =>
    self (x4 + 1) h23
    else none
def B_X13_readReads_315 (x3 : Int32) (x4 : Int32) (x5 : Int32) (x6 : Int32) (k322 : Hp → Option (Int32 × Hp)) (self : Int32 → Hp → Option (Int32 × Hp)) (x7 : Int32) (t0 : Int32) (t1 : Int32) (h : Hp) : Option (Int32 × Hp) :=
  if inb t1 437 = true then
  lt (sI h 158 (t1.toNatClampNeg) t0) fun h45 =>
  self (x7 + 1) h45
  else none
def F_X13_readReads_245 (x3 : Int32) (x4 : Int32) (x5 : Int32) (x6 : Int32) (k322 : Hp → Option (Int32 × Hp)) (self : Int32 → Hp → Option (Int32 × Hp)) (x7 : Int32) (h : Hp) : Option (Int32 × Hp) :=
  if 8 ≤ x7 then
    k322 h
  else
    if x5 = 0 then
      if inb (x3 + x7) 437 = true then
      B_X13_readReads_315 x3 x4 x5 x6 k322 self x7 ((h.1 158 ((x3 + x7).toNatClampNeg)) ||| x6) (x3 + x7) h
      else none
    else
      if x5 = 1 then
        if inb (x3 + x7) 437 = true then
        B_X13_readReads_315 x3 x4 x5 x6 k322 self x7 ((h.1 158 ((x3 + x7).toNatClampNeg)) &&& (x6 ^^^ (-1))) (x3 + x7) h
        else none
      else
        if inb (x3 + x7) 437 = true then
        B_X13_readReads_315 x3 x4 x5 x6 k322 self x7 ((h.1 158 ((x3 + x7).toNatClampNeg)) ^^^ x6) (x3 + x7) h
        else none
def B_X13_readReads_211 (x3 : Int32) (k176 : Hp → Option (Int32 × Hp)) (k232 : Hp → Option (Int32 × Hp)) (k328 : Hp → Option (Int32 × Hp)) (self : Int32 → Hp → Option (Int32 × Hp)) (x4 : Int32) (t0 : Int32) (h : Hp) : Option (Int32 × Hp) :=
  bnv (f_X13_next h) fun h35 =>
  bnd (f_X13_takesName 21 (h35.1 158 ((1 : Int32).toNatClampNeg)) h35) fun v37 h36 =>
  (if v37 = 0 then
    k232 h36
  else
    lt (jshl 1 (h36.1 155 17)) fun v39 =>
    itr2 (F_X13_readReads_245 x3 x4 t0 v39 (fun h48 =>
      self (x4 + 1) h48)) N0 0 h36)
def B_X13_readReads_169 (x3 : Int32) (k176 : Hp → Option (Int32 × Hp)) (k232 : Hp → Option (Int32 × Hp)) (k328 : Hp → Option (Int32 × Hp)) (self : Int32 → Hp → Option (Int32 × Hp)) (x4 : Int32) (h : Hp) : Option (Int32 × Hp) :=
  if x4 = 6 then
    k176 h
  else
    bnd (f_X13_isWord 1936028787 h) fun v30 h29 =>
    (if v30 = 0 then
      bnd (f_X13_isWord 109317208502899 h29) fun v33 h32 =>
      (if v33 = 0 then
        B_X13_readReads_211 x3 k176 k232 k328 self x4 2 h32
      else
        B_X13_readReads_211 x3 k176 k232 k328 self x4 1 h32)
    else
      B_X13_readReads_211 x3 k176 k232 k328 self x4 0 h29)
def F_X13_readReads_139 (x3 : Int32) (k176 : Hp → Option (Int32 × Hp)) (k232 : Hp → Option (Int32 × Hp)) (k328 : Hp → Option (Int32 × Hp)) (self : Int32 → Hp → Option (Int32 × Hp)) (x4 : Int32) (h : Hp) : Option (Int32 × Hp) :=
  bnd (f_X13_isWord 1936028787 h) fun v26 h25 =>
  (if v26 = 0 then
    bnd (f_X13_isWord 109317208502899 h25) fun v50 h49 =>
    (if v50 = 0 then
      bnd (f_X13_isWord 500186639987 h49) fun v53 h52 =>
      (if v53 = 0 then
        k328 h52
      else
        B_X13_readReads_169 x3 k176 k232 k328 self x4 h52)
    else
      B_X13_readReads_169 x3 k176 k232 k328 self x4 h49)
  else
    B_X13_readReads_169 x3 k176 k232 k328 self x4 h25)
def f_X13_readReads (h : Hp) : Option (Int32 × Hp) :=
  bnv (f_X13_next h) fun h1 =>
  bnd (f_X13_takesName 24 (h1.1 158 ((2 : Int32).toNatClampNeg)) h1) fun v3 h2 =>
  (if v3 = 0 then
    some (0, h2)
  else
    lt (h2.1 155 17) fun v5 =>
    bnd (f_X13_isName h2) fun v7 h6 =>
    (if v7 = 0 then
      bnd (f_X13_bad 1 h6) fun v62 h61 =>
      if isZ v62 = true then
      some (v62, h61)
      else none
    else
      bnd (f_X13_find 16 (h6.1 158 ((0 : Int32).toNatClampNeg)) h6) fun v10 h9 =>
      (if v10 < 0 then
        B_X13_readReads_73 h9
      else
        if inb ((72 + (5 * v5)) + v10) 437 = true then
        (if (h9.1 158 (((72 + (5 * v5)) + v10).toNatClampNeg)) = 1 then
          B_X13_readReads_73 h9
        else
          bnv (f_X13_next h9) fun h17 =>
          if inb ((72 + (5 * v5)) + v10) 437 = true then
          lt (sI h17 158 (((72 + (5 * v5)) + v10).toNatClampNeg) 1) fun h19 =>
          lt (112 + (8 * ((5 * v5) + v10))) fun v20 =>
          itr2 (F_X13_readReads_112 v20 (fun h24 =>
            itr2 (F_X13_readReads_139 v20 (fun h55 =>
              bnd (f_X13_bad 4 h55) fun v57 h56 =>
              if isZ v57 = true then
              some (v57, h56)
              else none) (fun h59 =>
              some (0, h59)) (fun h60 =>
              some (1, h60))) N0 0 h24)) N0 0 h19
          else none)
        else none)))
def B_X13_readSort_90 (x1 : Int32) (k103 : Hp → Option (Int32 × Hp)) (k123 : Hp → Option (Int32 × Hp)) (self : Hp → Option (Int32 × Hp)) (t0 : Int32) (h : Hp) : Option (Int32 × Hp) :=
  lt (t0 + x1) fun v17 =>
  if inb v17 437 = true then
  (if (h.1 158 (v17.toNatClampNeg)) = 1 then
    k103 h
  else
    if inb v17 437 = true then
    lt (sI h 158 (v17.toNatClampNeg) 1) fun h21 =>
    bnv (f_X13_next h21) fun h22 =>
    self h22
    else none)
  else none
def B_X13_readSort_74 (x1 : Int32) (k103 : Hp → Option (Int32 × Hp)) (k123 : Hp → Option (Int32 × Hp)) (self : Hp → Option (Int32 × Hp)) (h : Hp) : Option (Int32 × Hp) :=
  bnd (f_X13_isWord 108187666181747 h) fun v15 h14 =>
  (if v15 = 0 then
    B_X13_readSort_90 x1 k103 k123 self 10 h14
  else
    B_X13_readSort_90 x1 k103 k123 self 5 h14)
def F_X13_readSort_54 (x1 : Int32) (k103 : Hp → Option (Int32 × Hp)) (k123 : Hp → Option (Int32 × Hp)) (self : Hp → Option (Int32 × Hp)) (h : Hp) : Option (Int32 × Hp) :=
  bnd (f_X13_isWord 108187666181747 h) fun v12 h11 =>
  (if v12 = 0 then
    bnd (f_X13_isWord 1701733491 h11) fun v24 h23 =>
    (if v24 = 0 then
      k123 h23
    else
      B_X13_readSort_74 x1 k103 k123 self h23)
  else
    B_X13_readSort_74 x1 k103 k123 self h11)
def f_X13_readSort (h : Hp) : Option (Int32 × Hp) :=
  lt (h.1 158 ((0 : Int32).toNatClampNeg)) fun v1 =>
  (if v1 = 5 then
    bnd (f_X13_bad 4 h) fun v33 h32 =>
    if isZ v33 = true then
    some (v33, h32)
    else none
  else
    bnv (f_X13_next h) fun h3 =>
    bnd (f_X13_fresh (16 + v1) h3) fun v5 h4 =>
    (if v5 = 0 then
      some (0, h4)
    else
      if inb (5 + v1) 437 = true then
      lt (sI h4 158 ((5 + v1).toNatClampNeg) 0) fun h8 =>
      if inb (10 + v1) 437 = true then
      lt (sI h8 158 ((10 + v1).toNatClampNeg) 0) fun h10 =>
      itr1 (F_X13_readSort_54 v1 (fun h26 =>
        bnd (f_X13_bad 3 h26) fun v28 h27 =>
        if isZ v28 = true then
        some (v28, h27)
        else none) (fun h30 =>
        lt (sI h30 158 ((0 : Int32).toNatClampNeg) ((h30.1 158 ((0 : Int32).toNatClampNeg)) + 1)) fun h31 =>
        some (1, h31))) N0 h10
      else none
      else none))
def B_X13_readWord_217 (h : Hp) : Option (Int32 × Hp) :=
  lt (sI h 158 ((2 : Int32).toNatClampNeg) ((h.1 158 ((2 : Int32).toNatClampNeg)) + 1)) fun h27 =>
  some (1, h27)
def B_X13_readWord_193 (x1 : Int32) (h : Hp) : Option (Int32 × Hp) :=
  bnd (f_X13_isWord 1768189029 h) fun v25 h24 =>
  (if v25 = 0 then
    B_X13_readWord_217 h24
  else
    bnv (f_X13_next h24) fun h28 =>
    if inb (64 + x1) 437 = true then
    lt (sI h28 158 ((64 + x1).toNatClampNeg) 1) fun h30 =>
    B_X13_readWord_217 h30
    else none)
def B_X13_readWord_154 (x1 : Int32) (h : Hp) : Option (Int32 × Hp) :=
  bnd (f_X13_isWord 427071599731 h) fun v22 h21 =>
  (if v22 = 0 then
    B_X13_readWord_193 x1 h21
  else
    bnv (f_X13_next h21) fun h31 =>
    bnd (f_X13_takes 0 99 h31) fun v33 h32 =>
    (if v33 = 0 then
      some (0, h32)
    else
      if inb (56 + x1) 437 = true then
      lt (sI h32 158 ((56 + x1).toNatClampNeg) (h32.1 155 17)) fun h36 =>
      B_X13_readWord_193 x1 h36
      else none))
def B_X13_readWord_115 (x1 : Int32) (h : Hp) : Option (Int32 × Hp) :=
  bnd (f_X13_isWord 131277443786867 h) fun v19 h18 =>
  (if v19 = 0 then
    B_X13_readWord_154 x1 h18
  else
    bnv (f_X13_next h18) fun h37 =>
    bnd (f_X13_takes 1 60 h37) fun v39 h38 =>
    (if v39 = 0 then
      some (0, h38)
    else
      if inb (48 + x1) 437 = true then
      lt (sI h38 158 ((48 + x1).toNatClampNeg) (h38.1 155 17)) fun h42 =>
      B_X13_readWord_154 x1 h42
      else none))
def f_X13_readWord (h : Hp) : Option (Int32 × Hp) :=
  lt (h.1 158 ((2 : Int32).toNatClampNeg)) fun v1 =>
  (if v1 = 8 then
    bnd (f_X13_bad 4 h) fun v50 h49 =>
    if isZ v50 = true then
    some (v50, h49)
    else none
  else
    bnv (f_X13_next h) fun h3 =>
    bnd (f_X13_fresh (24 + v1) h3) fun v5 h4 =>
    (if v5 = 0 then
      some (0, h4)
    else
      if inb (40 + v1) 437 = true then
      lt (sI h4 158 ((40 + v1).toNatClampNeg) 1) fun h8 =>
      if inb (48 + v1) 437 = true then
      lt (sI h8 158 ((48 + v1).toNatClampNeg) 1) fun h10 =>
      if inb (56 + v1) 437 = true then
      lt (sI h10 158 ((56 + v1).toNatClampNeg) 1) fun h12 =>
      if inb (64 + v1) 437 = true then
      lt (sI h12 158 ((64 + v1).toNatClampNeg) 0) fun h14 =>
      bnd (f_X13_isWord 422607680627 h14) fun v16 h15 =>
      (if v16 = 0 then
        B_X13_readWord_115 v1 h15
      else
        bnv (f_X13_next h15) fun h43 =>
        bnd (f_X13_takes 0 9 h43) fun v45 h44 =>
        (if v45 = 0 then
          some (0, h44)
        else
          if inb (40 + v1) 437 = true then
          lt (sI h44 158 ((40 + v1).toNatClampNeg) (h44.1 155 17)) fun h48 =>
          B_X13_readWord_115 v1 h48
          else none))
      else none
      else none
      else none
      else none))
def f_X13_line (h : Hp) : Option (Int32 × Hp) :=
  bnd (f_X13_isWord 1936683636 h) fun v2 h1 =>
  (if v2 = 0 then
    bnd (f_X13_isWord 1835102827 h1) fun v5 h4 =>
    (if v5 = 0 then
      bnd (f_X13_isWord 112628746448759 h4) fun v8 h7 =>
      (if v8 = 0 then
        bnd (f_X13_isWord 2003792484 h7) fun v11 h10 =>
        (if v11 = 0 then
          bnd (f_X13_isWord 491327153267 h10) fun v14 h13 =>
          (if v14 = 0 then
            bnd (f_X13_isWord 435476325236 h13) fun v17 h16 =>
            (if v17 = 0 then
              bnd (f_X13_isWord 427020350059 h16) fun v20 h19 =>
              (if v20 = 0 then
                bnd (f_X13_bad 1 h19) fun v23 h22 =>
                if isZ v23 = true then
                some (v23, h22)
                else none
              else
                bnd (f_X13_readClerk h19) fun v26 h25 =>
                if isZ v26 = true then
                some (v26, h25)
                else none)
            else
              bnd (f_X13_readEdict h16) fun v29 h28 =>
              if isZ v29 = true then
              some (v29, h28)
              else none)
          else
            bnd (f_X13_readReads h13) fun v32 h31 =>
            if isZ v32 = true then
            some (v32, h31)
            else none)
        else
          bnd (f_X13_readWord h10) fun v35 h34 =>
          if isZ v35 = true then
          some (v35, h34)
          else none)
      else
        bnd (f_X13_readFollow h7) fun v38 h37 =>
        if isZ v38 = true then
        some (v38, h37)
        else none)
    else
      if (h4.1 158 ((1 : Int32).toNatClampNeg)) = 3 then
        bnd (f_X13_bad 4 h4) fun v47 h46 =>
        if isZ v47 = true then
        some (v47, h46)
        else none
      else
        bnv (f_X13_next h4) fun h41 =>
        bnd (f_X13_fresh (21 + (h41.1 158 ((1 : Int32).toNatClampNeg))) h41) fun v43 h42 =>
        (if v43 = 0 then
          some (0, h42)
        else
          lt (sI h42 158 ((1 : Int32).toNatClampNeg) ((h42.1 158 ((1 : Int32).toNatClampNeg)) + 1)) fun h45 =>
          some (1, h45)))
  else
    bnd (f_X13_readSort h1) fun v50 h49 =>
    if isZ v50 = true then
    some (v50, h49)
    else none)
def F_X13_tongue_40 (k63 : Hp → Option (Int32 × Hp)) (k83 : Hp → Option (Int32 × Hp)) (self : Hp → Option (Int32 × Hp)) (h : Hp) : Option (Int32 × Hp) :=
  if (h.1 155 10) = 0 then
    k83 h
  else
    bnd (f_X13_line h) fun v11 h10 =>
    (if v11 = 0 then
      k63 h10
    else
      bnd (f_X13_sign 59 h10) fun v14 h13 =>
      (if v14 = 0 then
        k63 h13
      else
        lt (sI h13 155 18 ((h13.1 155 18) + 1)) fun h16 =>
        self h16))
def B_X13_tongue_114 (k121 : Hp → Option (Int32 × Hp)) (self : Int32 → Hp → Option (Int32 × Hp)) (x1 : Int32) (t0 : Int32) (t1 : Int32) (h : Hp) : Option (Int32 × Hp) :=
  if inb t1 713 = true then
  lt (sI h 157 (t1.toNatClampNeg) t0) fun h22 =>
  self (x1 + 1) h22
  else none
def F_X13_tongue_85 (k121 : Hp → Option (Int32 × Hp)) (self : Int32 → Hp → Option (Int32 × Hp)) (x1 : Int32) (h : Hp) : Option (Int32 × Hp) :=
  if 713 ≤ x1 then
    k121 h
  else
    if 437 ≤ x1 then
      B_X13_tongue_114 k121 self x1 0 x1 h
    else
      if inb x1 437 = true then
      B_X13_tongue_114 k121 self x1 (h.1 158 (x1.toNatClampNeg)) x1 h
      else none
def F_X13_tongue_123 (k150 : Hp → Option (Int32 × Hp)) (self : Int32 → Hp → Option (Int32 × Hp)) (x1 : Int32) (h : Hp) : Option (Int32 × Hp) :=
  if 16 ≤ x1 then
    k150 h
  else
    if inb (16 + x1) 32 = true then
    if inb x1 32 = true then
    lt (sL h 159 (x1.toNatClampNeg) (h.2.1 159 ((16 + x1).toNatClampNeg))) fun h28 =>
    self (x1 + 1) h28
    else none
    else none
def f_X13_tongue (h : Hp) : Option (Int32 × Hp) :=
  lt (sI h 155 0 0) fun h1 =>
  bnv (f_X13_taken 900 h1) fun h2 =>
  lt (sI h2 155 14 0) fun h3 =>
  lt (sI h3 155 18 0) fun h4 =>
  lt (sI h4 155 19 0) fun h5 =>
  lt (sI h5 155 20 0) fun h6 =>
  bnv (f_X13_plainTongue h6) fun h7 =>
  bnv (f_X13_next h7) fun h8 =>
  itr1 (F_X13_tongue_40 (fun h17 =>
    some ((-1) - (h17.1 155 15), h17)) (fun h18 =>
    itr2 (F_X13_tongue_85 (fun h24 =>
      itr2 (F_X13_tongue_123 (fun h29 =>
        lt (sI h29 155 31 1) fun h30 =>
        some (h30.1 155 18, h30))) N0 0 h24)) N0 0 h18)) N0 h8
def f_X13_fault (h : Hp) : Option (Int32 × Hp) :=
  lt (sI h 155 0 0) fun h1 =>
  some (h1.1 155 14, h1)
def f_X13_isSaying (x1 : Int32) (h : Hp) : Option (Int32 × Hp) :=
  bnd (f_X13_isIn x1 0 ((h.1 157 ((2 : Int32).toNatClampNeg)) - 1) h) fun v2 h1 =>
  if isZ v2 = true then
  some (v2, h1)
  else none
def F_X13_word_36 (x1 : Int32) (x2 : Int32) (k65 : Int32 → Hp → Option (Int32 × Hp)) (self : Int32 → Int32 → Hp → Option (Int32 × Hp)) (x3 : Int32) (x4 : Int32) (h : Hp) : Option (Int32 × Hp) :=
  if 5 ≤ x4 then
    k65 x3 h
  else
    if inb ((72 + (5 * x1)) + x4) 713 = true then
    lt (x3 + (h.1 157 (((72 + (5 * x1)) + x4).toNatClampNeg))) fun v9 =>
    self v9 (x4 + 1) h
    else none
def B_X13_word_23 (x1 : Int32) (x2 : Int32) (t0 : Int32) (h : Hp) : Option (Int32 × Hp) :=
  bnd (f_X13_throwsIf t0 h) fun v5 h4 =>
  (if v5 = 0 then
    itr3 (F_X13_word_36 x1 x2 (fun v11 h10 =>
      if x2 = 0 then
        if inb (40 + x1) 713 = true then
        some (h10.1 157 ((40 + x1).toNatClampNeg), h10)
        else none
      else
        if x2 = 1 then
          if inb (48 + x1) 713 = true then
          some (h10.1 157 ((48 + x1).toNatClampNeg), h10)
          else none
        else
          if x2 = 2 then
            if inb (56 + x1) 713 = true then
            some (h10.1 157 ((56 + x1).toNatClampNeg), h10)
            else none
          else
            if x2 = 3 then
              if inb (64 + x1) 713 = true then
              some (h10.1 157 ((64 + x1).toNatClampNeg), h10)
              else none
            else
              some (v11, h10))) N0 0 0 h4
  else
    some (0, h4))
def f_X13_word (x1 : Int32) (x2 : Int32) (h : Hp) : Option (Int32 × Hp) :=
  bnd (f_X13_isSaying x1 h) fun v2 h1 =>
  (if v2 = 0 then
    B_X13_word_23 x1 x2 1 h1
  else
    bnd (f_X13_isIn x2 0 4 h1) fun v21 h20 =>
    (if v21 = 0 then
      B_X13_word_23 x1 x2 1 h20
    else
      B_X13_word_23 x1 x2 0 h20))
def f_X13_becomes (x1 : Int32) (x2 : Int32) (x3 : Int32) (h : Hp) : Option (Int32 × Hp) :=
  lt (sI h 155 0 0) fun h1 =>
  bnd (f_X13_isSaying x1 h1) fun v3 h2 =>
  (if v3 = 0 then
    some ((-1), h2)
  else
    bnd (f_X13_isIn x2 0 ((h2.1 157 ((0 : Int32).toNatClampNeg)) - 1) h2) fun v6 h5 =>
    (if v6 = 0 then
      some ((-1), h5)
    else
      bnd (f_X13_isIn x3 0 7 h5) fun v9 h8 =>
      (if v9 = 0 then
        some ((-1), h8)
      else
        if inb ((72 + (5 * x1)) + x2) 713 = true then
        (if (h8.1 157 (((72 + (5 * x1)) + x2).toNatClampNeg)) = 1 then
          if inb ((112 + (8 * ((5 * x1) + x2))) + x3) 713 = true then
          some (h8.1 157 (((112 + (8 * ((5 * x1) + x2))) + x3).toNatClampNeg), h8)
          else none
        else
          some ((-1), h8))
        else none)))
def F_X13_alike_87 (x1 : Int32) (x2 : Int32) (x3 : Int32) (x5 : Int32) (k173 : Int32 → Hp → Option (Int32 × Hp)) (self : Int32 → Int32 → Hp → Option (Int32 × Hp)) (x4 : Int32) (x6 : Int32) (h : Hp) : Option (Int32 × Hp) :=
  if 8 ≤ x6 then
    k173 x4 h
  else
    if inb ((72 + (5 * x1)) + x5) 713 = true then
    (if (h.1 157 (((72 + (5 * x1)) + x5).toNatClampNeg)) = 1 then
      if x4 = 0 then
        self 0 (x6 + 1) h
      else
        if inb ((112 + (8 * ((5 * x1) + x5))) + x6) 713 = true then
        if inb ((112 + (8 * ((5 * x3) + x5))) + x6) 713 = true then
        (if (h.1 157 (((112 + (8 * ((5 * x1) + x5))) + x6).toNatClampNeg)) = (h.1 157 (((112 + (8 * ((5 * x3) + x5))) + x6).toNatClampNeg)) then
          self 1 (x6 + 1) h
        else
          self 0 (x6 + 1) h)
        else none
        else none
    else
      k173 x4 h)
    else none
def F_X13_alike_35 (x1 : Int32) (x2 : Int32) (x3 : Int32) (k179 : Int32 → Hp → Option (Int32 × Hp)) (self : Int32 → Int32 → Hp → Option (Int32 × Hp)) (x4 : Int32) (x5 : Int32) (h : Hp) : Option (Int32 × Hp) :=
  if 5 ≤ x5 then
    k179 x4 h
  else
    if x4 = 0 then
      itr3 (F_X13_alike_87 x1 x2 x3 x5 (fun v16 h15 =>
        self v16 (x5 + 1) h15)) N0 0 0 h
    else
      if inb ((72 + (5 * x1)) + x5) 713 = true then
      if inb ((72 + (5 * x3)) + x5) 713 = true then
      (if (h.1 157 (((72 + (5 * x1)) + x5).toNatClampNeg)) = (h.1 157 (((72 + (5 * x3)) + x5).toNatClampNeg)) then
        itr3 (F_X13_alike_87 x1 x2 x3 x5 (fun v23 h22 =>
          self v23 (x5 + 1) h22)) N0 1 0 h
      else
        itr3 (F_X13_alike_87 x1 x2 x3 x5 (fun v21 h20 =>
          self v21 (x5 + 1) h20)) N0 0 0 h)
      else none
      else none
def F_X13_alike_19 (x1 : Int32) (k200 : Int32 → Hp → Option (Int32 × Hp)) (self : Int32 → Int32 → Hp → Option (Int32 × Hp)) (x2 : Int32) (x3 : Int32) (h : Hp) : Option (Int32 × Hp) :=
  if (h.1 157 ((2 : Int32).toNatClampNeg)) ≤ x3 then
    k200 x2 h
  else
    itr3 (F_X13_alike_35 x1 x2 x3 (fun v25 h24 =>
      if v25 = 0 then
        lt (x2 ||| 0) fun v27 =>
        self v27 (x3 + 1) h24
      else
        lt (x2 ||| (jshl 1 x3)) fun v28 =>
        self v28 (x3 + 1) h24)) N0 1 0 h
def f_X13_alike (x1 : Int32) (h : Hp) : Option (Int32 × Hp) :=
  lt (sI h 155 0 0) fun h1 =>
  bnd (f_X13_isSaying x1 h1) fun v3 h2 =>
  (if v3 = 0 then
    some ((-1), h2)
  else
    itr3 (F_X13_alike_19 x1 (fun v30 h29 =>
      some (v30, h29))) N0 0 0 h2)
def F_X13_keep_11 (x1 : Nat) (x2 : Int32) (k35 : Hp → Option Hp) (self : Int32 → Hp → Option Hp) (x3 : Int32) (h : Hp) : Option Hp :=
  if x2 ≤ x3 then
    k35 h
  else
    if inb x3 (aln x1) = true then
    if inb (438 + x3) 713 = true then
    lt (sI h 157 ((438 + x3).toNatClampNeg) (h.1 x1 (x3.toNatClampNeg))) fun h5 =>
    self (x3 + 1) h5
    else none
    else none
def f_X13_keep (x1 : Nat) (x2 : Int32) (h : Hp) : Option Hp :=
  lt (sI h 157 ((437 : Int32).toNatClampNeg) x2) fun h1 =>
  itr2 (F_X13_keep_11 x1 x2 (fun h6 =>
    some h6)) N0 0 h1
def B_X13_text_98 (k45 : Hp → Option (Int32 × Hp)) (k91 : Hp → Option (Int32 × Hp)) (k115 : Int32 → Hp → Option (Int32 × Hp)) (self : Int32 → Hp → Option (Int32 × Hp)) (x1 : Int32) (x2 : Int32) (h : Hp) : Option (Int32 × Hp) :=
  if inb x1 24 = true then
  lt (sI h 163 (x1.toNatClampNeg) x2) fun h14 =>
  bnv (f_X13_next h14) fun h15 =>
  self (x1 + 1) h15
  else none
def B_X13_text_77 (k45 : Hp → Option (Int32 × Hp)) (k91 : Hp → Option (Int32 × Hp)) (k115 : Int32 → Hp → Option (Int32 × Hp)) (self : Int32 → Hp → Option (Int32 × Hp)) (x1 : Int32) (x2 : Int32) (h : Hp) : Option (Int32 × Hp) :=
  if x1 = 24 then
    bnd (f_X13_bad 4 h) fun v17 h16 =>
    (if v17 = 0 then
      k91 h16
    else
      B_X13_text_98 k45 k91 k115 self x1 x2 h16)
  else
    B_X13_text_98 k45 k91 k115 self x1 x2 h
def B_X13_text_52 (k45 : Hp → Option (Int32 × Hp)) (k91 : Hp → Option (Int32 × Hp)) (k115 : Int32 → Hp → Option (Int32 × Hp)) (self : Int32 → Hp → Option (Int32 × Hp)) (x1 : Int32) (h : Hp) : Option (Int32 × Hp) :=
  bnd (f_X13_find 8 (h.1 157 ((2 : Int32).toNatClampNeg)) h) fun v10 h9 =>
  (if 0 ≤ v10 then
    B_X13_text_77 k45 k91 k115 self x1 v10 h9
  else
    bnd (f_X13_bad 3 h9) fun v20 h19 =>
    (if v20 = 0 then
      k91 h19
    else
      B_X13_text_77 k45 k91 k115 self x1 v10 h19))
def F_X13_text_23 (k45 : Hp → Option (Int32 × Hp)) (k91 : Hp → Option (Int32 × Hp)) (k115 : Int32 → Hp → Option (Int32 × Hp)) (self : Int32 → Hp → Option (Int32 × Hp)) (x1 : Int32) (h : Hp) : Option (Int32 × Hp) :=
  if (h.1 155 10) = 0 then
    k115 x1 h
  else
    bnd (f_X13_isName h) fun v7 h6 =>
    (if v7 = 0 then
      bnd (f_X13_bad 1 h6) fun v23 h22 =>
      (if v23 = 0 then
        k45 h22
      else
        B_X13_text_52 k45 k91 k115 self x1 h22)
    else
      B_X13_text_52 k45 k91 k115 self x1 h6)
def f_X13_text (h : Hp) : Option (Int32 × Hp) :=
  lt (sI h 155 0 0) fun h1 =>
  bnv (f_X13_taken 200 h1) fun h2 =>
  lt (sI h2 155 14 0) fun h3 =>
  bnv (f_X13_next h3) fun h4 =>
  itr2 (F_X13_text_23 (fun h25 =>
    some ((-1) - (h25.1 155 15), h25)) (fun h26 =>
    some ((-1) - (h26.1 155 15), h26)) (fun v28 h27 =>
    bnv (f_X13_keep 163 v28 h27) fun h29 =>
    some (v28, h29))) N0 0 h4
def F_X13_lay_25 (k57 : Hp → Option (Int32 × Hp)) (k65 : Hp → Option (Int32 × Hp)) (self : Int32 → Hp → Option (Int32 × Hp)) (x1 : Int32) (h : Hp) : Option (Int32 × Hp) :=
  if (h.1 155 3) ≤ x1 then
    k65 h
  else
    bnd (f_X13_octet x1 h) fun v6 h5 =>
    if inb x1 24 = true then
    lt (sI h5 163 (x1.toNatClampNeg) v6) fun h8 =>
    if inb x1 24 = true then
    bnd (f_X13_isSaying (h8.1 163 (x1.toNatClampNeg)) h8) fun v11 h10 =>
    (if v11 = 0 then
      k57 h10
    else
      self (x1 + 1) h10)
    else none
    else none
def f_X13_lay (h : Hp) : Option (Int32 × Hp) :=
  lt (sI h 155 0 0) fun h1 =>
  bnv (f_X13_taken 940 h1) fun h2 =>
  (if (h2.1 155 3) ≤ 24 then
    itr2 (F_X13_lay_25 (fun h13 =>
      some ((-1), h13)) (fun h14 =>
      bnv (f_X13_keep 163 (h14.1 155 3) h14) fun h15 =>
      some (h15.1 155 3, h15))) N0 0 h2
  else
    some ((-1), h2))
def f_X13_draw (x1 : Int32) (h : Hp) : Option (Int32 × Hp) :=
  lt (sI h 155 24 (((h.1 155 24) * 1103515245) + 12345)) fun h1 =>
  if nz x1 = true then
  some (jrem (jushr (h1.1 155 24) 8) x1, h1)
  else none
def F_X13_drawn_31 (x1 : Int32) (x2 : Int32) (k61 : Int32 → Hp → Option (Int32 × Hp)) (self : Int32 → Int32 → Hp → Option (Int32 × Hp)) (x3 : Int32) (x4 : Int32) (h : Hp) : Option (Int32 × Hp) :=
  if (h.1 157 ((2 : Int32).toNatClampNeg)) ≤ x4 then
    k61 x3 h
  else
    if inb (48 + x4) 713 = true then
    lt (x3 + (h.1 157 ((48 + x4).toNatClampNeg))) fun v8 =>
    self v8 (x4 + 1) h
    else none
def F_X13_drawn_94 (x1 : Int32) (x3 : Int32) (x4 : Int32) (x5 : Int32) (k122 : Int32 → Hp → Option (Int32 × Hp)) (self : Int32 → Int32 → Hp → Option (Int32 × Hp)) (x6 : Int32) (x7 : Int32) (h : Hp) : Option (Int32 × Hp) :=
  if x5 < x7 then
    k122 x6 h
  else
    if inb (48 + (x6 + 1)) 713 = true then
    lt (x7 + (h.1 157 ((48 + (x6 + 1)).toNatClampNeg))) fun v18 =>
    self (x6 + 1) v18 h
    else none
def F_X13_drawn_69 (x1 : Int32) (x3 : Int32) (k137 : Hp → Option (Int32 × Hp)) (self : Int32 → Hp → Option (Int32 × Hp)) (x4 : Int32) (h : Hp) : Option (Int32 × Hp) :=
  if x1 ≤ x4 then
    k137 h
  else
    bnd (f_X13_draw x3 h) fun v14 h13 =>
    lt (h13.1 157 ((48 : Int32).toNatClampNeg)) fun v15 =>
    itr3 (F_X13_drawn_94 x1 x3 x4 v14 (fun v20 h19 =>
      if inb x4 24 = true then
      lt (sI h19 163 (x4.toNatClampNeg) v20) fun h22 =>
      self (x4 + 1) h22
      else none)) N0 0 v15 h13
def f_X13_drawn (x1 : Int32) (x2 : Int32) (h : Hp) : Option (Int32 × Hp) :=
  lt (sI h 155 0 0) fun h1 =>
  bnd (f_X13_isIn x1 1 24 h1) fun v3 h2 =>
  (if v3 = 0 then
    some ((-1), h2)
  else
    if (h2.1 157 ((2 : Int32).toNatClampNeg)) = 0 then
      some ((-1), h2)
    else
      itr3 (F_X13_drawn_31 x1 x2 (fun v10 h9 =>
        lt (sI h9 155 24 x2) fun h11 =>
        itr2 (F_X13_drawn_69 x1 v10 (fun h23 =>
          bnv (f_X13_keep 163 x1 h23) fun h24 =>
          some (x1, h24))) N0 0 h11)) N0 0 0 h2)
def f_X13_isStruck (x1 : Int32) (x2 : Int32) (h : Hp) : Option (Int32 × Hp) :=
  if x1 ≤ 0 then
    some (0, h)
  else
    if x2 < x1 then
      some (0, h)
    else
      if nz (h.1 155 25) = true then
      (if (h.1 155 26) ≤ (jrem (x2 - x1) (h.1 155 25)) then
        some (0, h)
      else
        some (1, h))
      else none
def F_X13_leave_6 (x1 : Nat) (x2 : Int32) (x3 : Int32) (k47 : Int32 → Hp → Option Hp) (self : Int32 → Int32 → Hp → Option Hp) (x4 : Int32) (x5 : Int32) (h : Hp) : Option Hp :=
  if x2 ≤ x5 then
    k47 x4 h
  else
    bnd (f_X13_isStruck x3 (x5 + 1) h) fun v3 h2 =>
    (if v3 = 0 then
      if inb x5 (aln x1) = true then
      if inb x4 24 = true then
      lt (sI h2 162 (x4.toNatClampNeg) (h2.1 x1 (x5.toNatClampNeg))) fun h7 =>
      self (x4 + 1) (x5 + 1) h7
      else none
      else none
    else
      self x4 (x5 + 1) h2)
def f_X13_leave (x1 : Nat) (x2 : Int32) (x3 : Int32) (h : Hp) : Option Hp :=
  itr3 (F_X13_leave_6 x1 x2 x3 (fun v9 h8 =>
    lt (sI h8 155 27 v9) fun h10 =>
    some h10)) N0 0 0 h
def f_X13_isBeginning (x1 : Int32) (h : Hp) : Option (Int32 × Hp) :=
  bnd (f_X13_isIn x1 0 (h.1 157 ((3 : Int32).toNatClampNeg)) h) fun v2 h1 =>
  if isZ v2 = true then
  some (v2, h1)
  else none
def F_X13_leaveText_22 (x1 : Int32) (k56 : Hp → Option Hp) (self : Int32 → Hp → Option Hp) (x2 : Int32) (h : Hp) : Option Hp :=
  if (h.1 157 ((437 : Int32).toNatClampNeg)) ≤ x2 then
    k56 h
  else
    if inb (438 + x2) 713 = true then
    if inb x2 24 = true then
    lt (sI h 161 (x2.toNatClampNeg) (h.1 157 ((438 + x2).toNatClampNeg))) fun h6 =>
    self (x2 + 1) h6
    else none
    else none
def f_X13_leaveText (x1 : Int32) (h : Hp) : Option Hp :=
  lt (sI h 155 25 (h.1 157 ((3 : Int32).toNatClampNeg))) fun h1 =>
  lt (sI h1 155 26 (h1.1 157 ((4 : Int32).toNatClampNeg))) fun h2 =>
  itr2 (F_X13_leaveText_22 x1 (fun h7 =>
    bnv (f_X13_leave 161 (h7.1 157 ((437 : Int32).toNatClampNeg)) x1 h7) fun h8 =>
    some h8)) N0 0 h2
def f_X13_left (x1 : Int32) (h : Hp) : Option (Int32 × Hp) :=
  lt (sI h 155 0 0) fun h1 =>
  bnd (f_X13_isBeginning x1 h1) fun v3 h2 =>
  (if v3 = 0 then
    some ((-1), h2)
  else
    bnv (f_X13_leaveText x1 h2) fun h5 =>
    some (h5.1 155 27, h5))
def f_X13_leftAt (x1 : Int32) (x2 : Int32) (h : Hp) : Option (Int32 × Hp) :=
  lt (sI h 155 0 0) fun h1 =>
  bnd (f_X13_isBeginning x1 h1) fun v3 h2 =>
  (if v3 = 0 then
    some ((-1), h2)
  else
    bnv (f_X13_leaveText x1 h2) fun h5 =>
    bnd (f_X13_isIn x2 0 ((h5.1 155 27) - 1) h5) fun v7 h6 =>
    (if v7 = 0 then
      some ((-1), h6)
    else
      if inb x2 24 = true then
      some (h6.1 162 (x2.toNatClampNeg), h6)
      else none))
def F_X13_settle_35 (k62 : Hp → Option Hp) (self : Int32 → Hp → Option Hp) (x1 : Int32) (h : Hp) : Option Hp :=
  if 25 ≤ x1 then
    k62 h
  else
    if inb (15 + x1) 713 = true then
    if inb x1 25 = true then
    lt (sI h 166 (x1.toNatClampNeg) (h.1 157 ((15 + x1).toNatClampNeg))) fun h8 =>
    self (x1 + 1) h8
    else none
    else none
def F_X13_settle_99 (x1 : Int32) (x2 : Int32) (k141 : Int32 → Hp → Option Hp) (self : Int32 → Int32 → Hp → Option Hp) (x3 : Int32) (x4 : Int32) (h : Hp) : Option Hp :=
  if 8 ≤ x4 then
    k141 x3 h
  else
    bnd (f_X13_has x2 x4 h) fun v17 h16 =>
    (if v17 = 0 then
      self x3 (x4 + 1) h16
    else
      if inb ((112 + (8 * x1)) + x4) 713 = true then
      lt (x3 ||| (jshl 1 (h16.1 157 (((112 + (8 * x1)) + x4).toNatClampNeg)))) fun v20 =>
      self v20 (x4 + 1) h16
      else none)
def F_X13_settle_87 (x1 : Int32) (k160 : Hp → Option Hp) (self : Int32 → Hp → Option Hp) (x2 : Int32) (h : Hp) : Option Hp :=
  if 256 ≤ x2 then
    k160 h
  else
    itr3 (F_X13_settle_99 x1 x2 (fun v22 h21 =>
      if inb ((256 * x1) + x2) 10240 = true then
      lt (sI h21 164 (((256 * x1) + x2).toNatClampNeg) v22) fun h24 =>
      self (x2 + 1) h24
      else none)) N0 0 0 h
def F_X13_settle_64 (k166 : Hp → Option Hp) (self : Int32 → Hp → Option Hp) (x1 : Int32) (h : Hp) : Option Hp :=
  if 40 ≤ x1 then
    k166 h
  else
    if inb (72 + x1) 713 = true then
    if inb x1 40 = true then
    lt (sI h 165 (x1.toNatClampNeg) (h.1 157 ((72 + x1).toNatClampNeg))) fun h13 =>
    itr2 (F_X13_settle_87 x1 (fun h25 =>
      self (x1 + 1) h25)) N0 0 h13
    else none
    else none
def f_X13_settle (h : Hp) : Option Hp :=
  lt (sI h 155 25 (h.1 157 ((3 : Int32).toNatClampNeg))) fun h1 =>
  lt (sI h1 155 26 (h1.1 157 ((4 : Int32).toNatClampNeg))) fun h2 =>
  (if (h2.1 155 31) = 0 then
    some h2
  else
    lt (sI h2 155 31 0) fun h4 =>
    itr2 (F_X13_settle_35 (fun h9 =>
      itr2 (F_X13_settle_64 (fun h26 =>
        some h26)) N0 0 h9)) N0 0 h4)
def F_X13_comes_59 (x1 : Int64) (x3 : Int32) (x4 : Int64) (x6 : Int32) (k117 : Int32 → Hp → Option (Int64 × Hp)) (self : Int32 → Int32 → Hp → Option (Int64 × Hp)) (x7 : Int32) (x8 : Int32) (h : Hp) : Option (Int64 × Hp) :=
  if (h.1 157 ((0 : Int32).toNatClampNeg)) ≤ x8 then
    k117 x7 h
  else
    if (lg_cmp x1 (-1)) = 0 then
      k117 x7 h
    else
      if inb ((5 * x8) + x6) 25 = true then
      (if (h.1 166 (((5 * x8) + x6).toNatClampNeg)) = 1 then
        lt (x7 ||| (((jlshr x1 (8 * x8)) &&& 255).toInt32)) fun v9 =>
        self v9 (x8 + 1) h
      else
        self x7 (x8 + 1) h)
      else none
def B_X13_comes_117 (x1 : Int64) (x3 : Int32) (k153 : Int64 → Hp → Option (Int64 × Hp)) (self : Int64 → Int32 → Hp → Option (Int64 × Hp)) (x4 : Int64) (x6 : Int32) (x7 : Int32) (h : Hp) : Option (Int64 × Hp) :=
  if inb ((256 * ((5 * x3) + x6)) + x7) 10240 = true then
  lt (x4 ||| (jlshl ((h.1 164 (((256 * ((5 * x3) + x6)) + x7).toNatClampNeg)).toInt64) (8 * x6))) fun v13 =>
  self v13 (x6 + 1) h
  else none
def F_X13_comes_6 (x1 : Int64) (x3 : Int32) (k153 : Int64 → Hp → Option (Int64 × Hp)) (self : Int64 → Int32 → Hp → Option (Int64 × Hp)) (x4 : Int64) (x6 : Int32) (h : Hp) : Option (Int64 × Hp) :=
  if (h.1 157 ((0 : Int32).toNatClampNeg)) ≤ x6 then
    k153 x4 h
  else
    if inb ((5 * x3) + x6) 40 = true then
    (if (h.1 165 (((5 * x3) + x6).toNatClampNeg)) = 0 then
      self x4 (x6 + 1) h
    else
      if (lg_cmp x1 (-1)) = 0 then
        if inb (5 + x6) 713 = true then
        lt (h.1 157 ((5 + x6).toNatClampNeg)) fun v15 =>
        itr3 (F_X13_comes_59 x1 x3 x4 x6 (fun v17 h16 =>
          B_X13_comes_117 x1 x3 k153 self x4 x6 v17 h16)) N0 v15 0 h
        else none
      else
        itr3 (F_X13_comes_59 x1 x3 x4 x6 (fun v11 h10 =>
          B_X13_comes_117 x1 x3 k153 self x4 x6 v11 h10)) N0 0 0 h)
    else none
def f_X13_comes (x1 : Int64) (x3 : Int32) (h : Hp) : Option (Int64 × Hp) :=
  itr3 (F_X13_comes_6 x1 x3 (fun v19 h18 =>
    some (v19, h18))) N0 0 0 h
def F_X13_ends_5 (x1 : Int64) (k59 : Int32 → Hp → Option (Int32 × Hp)) (self : Int32 → Int32 → Hp → Option (Int32 × Hp)) (x3 : Int32) (x4 : Int32) (h : Hp) : Option (Int32 × Hp) :=
  if (h.1 157 ((0 : Int32).toNatClampNeg)) ≤ x4 then
    k59 x3 h
  else
    if (lg_cmp x1 (-1)) = 0 then
      k59 x3 h
    else
      if inb (10 + x4) 713 = true then
      (if (h.1 157 ((10 + x4).toNatClampNeg)) = 1 then
        lt (x3 ||| (((jlshr x1 (8 * x4)) &&& 255).toInt32)) fun v5 =>
        self v5 (x4 + 1) h
      else
        self x3 (x4 + 1) h)
      else none
def f_X13_ends (x1 : Int64) (h : Hp) : Option (Int32 × Hp) :=
  itr3 (F_X13_ends_5 x1 (fun v7 h6 =>
    some (v7, h6))) N0 0 0 h
def F_X13_meant_7 (x1 : Nat) (x2 : Int32) (k29 : Int64 → Hp → Option (Int32 × Hp)) (self : Int64 → Int32 → Hp → Option (Int32 × Hp)) (x3 : Int64) (x5 : Int32) (h : Hp) : Option (Int32 × Hp) :=
  if x2 ≤ x5 then
    k29 x3 h
  else
    if inb x5 (aln x1) = true then
    bnd (f_X13_comes x3 (h.1 x1 (x5.toNatClampNeg)) h) fun v4 h3 =>
    self v4 (x5 + 1) h3
    else none
def f_X13_meant (x1 : Nat) (x2 : Int32) (h : Hp) : Option (Int32 × Hp) :=
  itr3 (F_X13_meant_7 x1 x2 (fun v6 h5 =>
    bnd (f_X13_ends v6 h5) fun v8 h7 =>
    some (v8, h7))) N0 (-1) 0 h
def f_X13_textMeans (x1 : Int32) (h : Hp) : Option (Int32 × Hp) :=
  bnv (f_X13_settle h) fun h1 =>
  bnv (f_X13_leaveText x1 h1) fun h2 =>
  bnd (f_X13_meant 162 (h2.1 155 27) h2) fun v4 h3 =>
  some (v4, h3)
def f_X13_means (x1 : Int32) (h : Hp) : Option (Int32 × Hp) :=
  lt (sI h 155 0 0) fun h1 =>
  bnd (f_X13_isBeginning x1 h1) fun v3 h2 =>
  (if v3 = 0 then
    some ((-1), h2)
  else
    bnd (f_X13_textMeans x1 h2) fun v6 h5 =>
    some (v6, h5))
def F_X13_count_46 (x1 : Int32) (x2 : Int32) (k106 : Int64 → Hp → Option Hp) (self : Int64 → Int32 → Hp → Option Hp) (x3 : Int64) (x5 : Int32) (h : Hp) : Option Hp :=
  if 5 ≤ x5 then
    k106 x3 h
  else
    if ((h.1 155 27) - 1) ≤ x1 then
      k106 x3 h
    else
      if inb ((15 + (5 * x2)) + x5) 713 = true then
      (if (h.1 157 (((15 + (5 * x2)) + x5).toNatClampNeg)) = 1 then
        if inb ((5 * (x1 + 1)) + x5) 125 = true then
        lt (x3 + (h.2.1 167 (((5 * (x1 + 1)) + x5).toNatClampNeg))) fun v10 =>
        self v10 (x5 + 1) h
        else none
      else
        self (x3 + 0) (x5 + 1) h)
      else none
def B_X13_count_142 (x1 : Int32) (k149 : Hp → Option Hp) (self : Int32 → Hp → Option Hp) (x2 : Int32) (t0 : Int64) (t1 : Int32) (h : Hp) : Option Hp :=
  if inb t1 125 = true then
  lt (sL h 167 (t1.toNatClampNeg) t0) fun h17 =>
  self (x2 + 1) h17
  else none
def B_X13_count_106 (x1 : Int32) (k149 : Hp → Option Hp) (self : Int32 → Hp → Option Hp) (x2 : Int32) (x3 : Int64) (h : Hp) : Option Hp :=
  if inb x1 24 = true then
  if inb ((72 + (5 * (h.1 162 (x1.toNatClampNeg)))) + x2) 713 = true then
  (if (h.1 157 (((72 + (5 * (h.1 162 (x1.toNatClampNeg)))) + x2).toNatClampNeg)) = 1 then
    B_X13_count_142 x1 k149 self x2 x3 ((5 * x1) + x2) h
  else
    B_X13_count_142 x1 k149 self x2 0 ((5 * x1) + x2) h)
  else none
  else none
def F_X13_count_13 (x1 : Int32) (k149 : Hp → Option Hp) (self : Int32 → Hp → Option Hp) (x2 : Int32) (h : Hp) : Option Hp :=
  if 5 ≤ x2 then
    k149 h
  else
    if x1 = ((h.1 155 27) - 1) then
      if inb (10 + x2) 713 = true then
      lt ((h.1 157 ((10 + x2).toNatClampNeg)).toInt64) fun v19 =>
      itr3 (F_X13_count_46 x1 x2 (fun v21 h20 =>
        B_X13_count_106 x1 k149 self x2 v21 h20)) N0 v19 0 h
      else none
    else
      itr3 (F_X13_count_46 x1 x2 (fun v12 h11 =>
        B_X13_count_106 x1 k149 self x2 v12 h11)) N0 0 0 h
def F_X13_count_7 (k155 : Hp → Option Hp) (self : Int32 → Hp → Option Hp) (x1 : Int32) (h : Hp) : Option Hp :=
  if x1 < 0 then
    k155 h
  else
    itr2 (F_X13_count_13 x1 (fun h22 =>
      self (x1 + (-1)) h22)) N0 0 h
def f_X13_count (h : Hp) : Option Hp :=
  lt ((h.1 155 27) - 1) fun v1 =>
  itr2 (F_X13_count_7 (fun h23 =>
    some h23)) N0 v1 h
def F_X13_readings_31 (k77 : Int64 → Hp → Option (Int64 × Hp)) (self : Int64 → Int32 → Hp → Option (Int64 × Hp)) (x2 : Int64) (x4 : Int32) (h : Hp) : Option (Int64 × Hp) :=
  if 5 ≤ x4 then
    k77 x2 h
  else
    if (h.1 155 27) ≤ 0 then
      k77 x2 h
    else
      if inb (5 + x4) 713 = true then
      (if (h.1 157 ((5 + x4).toNatClampNeg)) = 1 then
        if inb x4 125 = true then
        lt (x2 + (h.2.1 167 (x4.toNatClampNeg))) fun v12 =>
        self v12 (x4 + 1) h
        else none
      else
        self (x2 + 0) (x4 + 1) h)
      else none
def f_X13_readings (x1 : Int32) (h : Hp) : Option (Int64 × Hp) :=
  lt (sI h 155 0 0) fun h1 =>
  bnd (f_X13_isBeginning x1 h1) fun v3 h2 =>
  (if v3 = 0 then
    some ((-1), h2)
  else
    bnv (f_X13_leaveText x1 h2) fun h5 =>
    bnv (f_X13_count h5) fun h6 =>
    itr3 (F_X13_readings_31 (fun v14 h13 =>
      some (v14, h13))) N0 0 0 h6)
def F_X13_sortAt_57 (x2 : Int32) (x3 : Int32) (x4 : Int32) (k128 : Int32 → Hp → Option (Int32 × Hp)) (self : Int32 → Int32 → Hp → Option (Int32 × Hp)) (x5 : Int32) (x6 : Int32) (h : Hp) : Option (Int32 × Hp) :=
  if x6 < 0 then
    k128 x5 h
  else
    if inb ((5 * x4) + x6) 125 = true then
    (if (lg_cmp (h.2.1 167 (((5 * x4) + x6).toNatClampNeg)) 0) ≤ 0 then
      self x5 (x6 + (-1)) h
    else
      if x4 = 0 then
        if inb (5 + x6) 713 = true then
        (if (h.1 157 ((5 + x6).toNatClampNeg)) = 1 then
          self x6 (x6 + (-1)) h
        else
          self x5 (x6 + (-1)) h)
        else none
      else
        if inb ((15 + (5 * x3)) + x6) 713 = true then
        (if (h.1 157 (((15 + (5 * x3)) + x6).toNatClampNeg)) = 1 then
          self x6 (x6 + (-1)) h
        else
          self x5 (x6 + (-1)) h)
        else none)
    else none
def F_X13_sortAt_45 (x2 : Int32) (k133 : Hp → Option (Int32 × Hp)) (k144 : Int32 → Hp → Option (Int32 × Hp)) (self : Int32 → Int32 → Hp → Option (Int32 × Hp)) (x3 : Int32) (x4 : Int32) (h : Hp) : Option (Int32 × Hp) :=
  if x2 < x4 then
    k144 x3 h
  else
    itr3 (F_X13_sortAt_57 x2 x3 x4 (fun v20 h19 =>
      if 0 ≤ v20 then
        self v20 (x4 + 1) h19
      else
        k133 h19)) N0 (-1) 4 h
def f_X13_sortAt (x1 : Int32) (x2 : Int32) (h : Hp) : Option (Int32 × Hp) :=
  lt (sI h 155 0 0) fun h1 =>
  bnd (f_X13_isBeginning x1 h1) fun v3 h2 =>
  (if v3 = 0 then
    some ((-1), h2)
  else
    bnv (f_X13_leaveText x1 h2) fun h5 =>
    bnd (f_X13_isIn x2 0 ((h5.1 155 27) - 1) h5) fun v7 h6 =>
    (if v7 = 0 then
      some ((-1), h6)
    else
      bnv (f_X13_count h6) fun h9 =>
      itr3 (F_X13_sortAt_45 x2 (fun h22 =>
        some ((-1), h22)) (fun v24 h23 =>
        some (v24, h23))) N0 (-1) 0 h9))
def F_X13_turns_15 (x1 : Int32) (k50 : Int32 → Hp → Option (Int32 × Hp)) (self : Int32 → Int32 → Hp → Option (Int32 × Hp)) (x2 : Int32) (x3 : Int32) (h : Hp) : Option (Int32 × Hp) :=
  if (h.1 157 ((3 : Int32).toNatClampNeg)) < x3 then
    k50 x2 h
  else
    bnd (f_X13_textMeans x3 h) fun v6 h5 =>
    (if v6 = x1 then
      lt (x2 ||| 0) fun v8 =>
      self v8 (x3 + 1) h5
    else
      lt (x2 ||| (jshl 1 x3)) fun v9 =>
      self v9 (x3 + 1) h5)
def f_X13_turns (h : Hp) : Option (Int32 × Hp) :=
  lt (sI h 155 0 0) fun h1 =>
  bnd (f_X13_textMeans 0 h1) fun v3 h2 =>
  itr3 (F_X13_turns_15 v3 (fun v11 h10 =>
    some (v11, h10))) N0 0 1 h2
def F_X13_isAll_2 (x0 : Int32) (x1 : Int32) (x2 : Int32) (k25 : Hp → Option (Int32 × Hp)) (k33 : Hp → Option (Int32 × Hp)) (self : Int32 → Hp → Option (Int32 × Hp)) (x3 : Int32) (h : Hp) : Option (Int32 × Hp) :=
  if 8 ≤ x3 then
    k33 h
  else
    bnd (f_X13_has x0 x3 h) fun v3 h2 =>
    (if v3 = 0 then
      self (x3 + 1) h2
    else
      bnd (f_X13_has x3 x1 h2) fun v6 h5 =>
      (if v6 = x2 then
        self (x3 + 1) h5
      else
        k25 h5))
def f_X13_isAll (x0 : Int32) (x1 : Int32) (x2 : Int32) (h : Hp) : Option (Int32 × Hp) :=
  itr2 (F_X13_isAll_2 x0 x1 x2 (fun h8 =>
    some (0, h8)) (fun h9 =>
    some (1, h9))) N0 0 h
def B_X13_against_85 (x1 : Int32) (x2 : Int32) (k120 : Int32 → Hp → Option (Int32 × Hp)) (self : Int32 → Int32 → Hp → Option (Int32 × Hp)) (x4 : Int32) (x5 : Int32) (t0 : Int32) (h : Hp) : Option (Int32 × Hp) :=
  bnd (f_X13_isAll x2 x1 0 h) fun v16 h15 =>
  (if v16 = 0 then
    lt (t0 ||| 0) fun v18 =>
    self v18 (x4 + 1) h15
  else
    bnd (f_X13_isAll x5 x1 1 h15) fun v20 h19 =>
    (if v20 = 0 then
      lt (t0 ||| 0) fun v22 =>
      self v22 (x4 + 1) h19
    else
      lt (t0 ||| (jshl 1 x4)) fun v23 =>
      self v23 (x4 + 1) h19))
def F_X13_against_34 (x1 : Int32) (x2 : Int32) (k120 : Int32 → Hp → Option (Int32 × Hp)) (self : Int32 → Int32 → Hp → Option (Int32 × Hp)) (x3 : Int32) (x4 : Int32) (h : Hp) : Option (Int32 × Hp) :=
  if (h.1 157 ((3 : Int32).toNatClampNeg)) < x4 then
    k120 x3 h
  else
    bnd (f_X13_textMeans x4 h) fun v9 h8 =>
    (if x2 = 0 then
      self x3 (x4 + 1) h8
    else
      if v9 = 0 then
        self x3 (x4 + 1) h8
      else
        bnd (f_X13_isAll x2 x1 1 h8) fun v13 h12 =>
        (if v13 = 0 then
          B_X13_against_85 x1 x2 k120 self x4 v9 x3 h12
        else
          bnd (f_X13_isAll v9 x1 0 h12) fun v25 h24 =>
          (if v25 = 0 then
            B_X13_against_85 x1 x2 k120 self x4 v9 x3 h24
          else
            lt (x3 ||| (jshl 1 x4)) fun v27 =>
            self v27 (x4 + 1) h24)))
def f_X13_against (x1 : Int32) (h : Hp) : Option (Int32 × Hp) :=
  lt (sI h 155 0 0) fun h1 =>
  bnd (f_X13_isIn x1 0 ((h1.1 157 ((1 : Int32).toNatClampNeg)) - 1) h1) fun v3 h2 =>
  (if v3 = 0 then
    some ((-1), h2)
  else
    bnd (f_X13_textMeans 0 h2) fun v6 h5 =>
    itr3 (F_X13_against_34 x1 v6 (fun v29 h28 =>
      some (v29, h28))) N0 0 1 h5)
def F_X13_twice_46 (x2 : Int32) (k72 : Hp → Option (Int32 × Hp)) (self : Int32 → Hp → Option (Int32 × Hp)) (x3 : Int32) (h : Hp) : Option (Int32 × Hp) :=
  if (h.1 155 27) ≤ x3 then
    k72 h
  else
    if inb x3 24 = true then
    if inb x3 24 = true then
    lt (sI h 161 (x3.toNatClampNeg) (h.1 162 (x3.toNatClampNeg))) fun h13 =>
    self (x3 + 1) h13
    else none
    else none
def f_X13_twice (x1 : Int32) (x2 : Int32) (h : Hp) : Option (Int32 × Hp) :=
  lt (sI h 155 0 0) fun h1 =>
  bnd (f_X13_isIn x1 1 (h1.1 157 ((3 : Int32).toNatClampNeg)) h1) fun v3 h2 =>
  (if v3 = 0 then
    some ((-1), h2)
  else
    bnd (f_X13_isIn x2 1 (h2.1 157 ((3 : Int32).toNatClampNeg)) h2) fun v6 h5 =>
    (if v6 = 0 then
      some ((-1), h5)
    else
      bnv (f_X13_settle h5) fun h8 =>
      bnv (f_X13_leaveText x1 h8) fun h9 =>
      itr2 (F_X13_twice_46 x2 (fun h14 =>
        bnv (f_X13_leave 161 (h14.1 155 27) x2 h14) fun h15 =>
        bnd (f_X13_meant 162 (h15.1 155 27) h15) fun v17 h16 =>
        some (v17, h16))) N0 0 h9))
def F_X13_standIn_27 (x1 : Int32) (k54 : Hp → Option (Int32 × Hp)) (self : Int32 → Hp → Option (Int32 × Hp)) (x2 : Int32) (h : Hp) : Option (Int32 × Hp) :=
  if (h.1 157 ((3 : Int32).toNatClampNeg)) < x2 then
    k54 h
  else
    bnd (f_X13_textMeans x2 h) fun v7 h6 =>
    if inb x2 6 = true then
    lt (sI h6 168 (x2.toNatClampNeg) v7) fun h9 =>
    self (x2 + 1) h9
    else none
def F_X13_standIn_99 (x1 : Int32) (x2 : Int32) (x3 : Int32) (x4 : Int32) (k144 : Int32 → Hp → Option (Int32 × Hp)) (self : Int32 → Int32 → Hp → Option (Int32 × Hp)) (x5 : Int32) (x6 : Int32) (h : Hp) : Option (Int32 × Hp) :=
  if (h.1 157 ((3 : Int32).toNatClampNeg)) < x6 then
    k144 x5 h
  else
    if x5 = 0 then
      self 0 (x6 + 1) h
    else
      bnd (f_X13_textMeans x6 h) fun v19 h18 =>
      if inb x6 6 = true then
      (if v19 = (h18.1 168 (x6.toNatClampNeg)) then
        self 1 (x6 + 1) h18
      else
        self 0 (x6 + 1) h18)
      else none
def F_X13_standIn_70 (x1 : Int32) (x2 : Int32) (k166 : Int32 → Hp → Option (Int32 × Hp)) (self : Int32 → Int32 → Hp → Option (Int32 × Hp)) (x3 : Int32) (x4 : Int32) (h : Hp) : Option (Int32 × Hp) :=
  if (h.1 157 ((2 : Int32).toNatClampNeg)) ≤ x4 then
    k166 x3 h
  else
    if inb (438 + x1) 713 = true then
    lt (sI h 157 ((438 + x1).toNatClampNeg) x4) fun h15 =>
    itr3 (F_X13_standIn_99 x1 x2 x3 x4 (fun v23 h22 =>
      if v23 = 0 then
        lt (x3 ||| 0) fun v25 =>
        self v25 (x4 + 1) h22
      else
        lt (x3 ||| (jshl 1 x4)) fun v26 =>
        self v26 (x4 + 1) h22)) N0 1 0 h15
    else none
def f_X13_standIn (x1 : Int32) (h : Hp) : Option (Int32 × Hp) :=
  lt (sI h 155 0 0) fun h1 =>
  bnd (f_X13_isIn x1 0 ((h1.1 157 ((437 : Int32).toNatClampNeg)) - 1) h1) fun v3 h2 =>
  (if v3 = 0 then
    some ((-1), h2)
  else
    itr2 (F_X13_standIn_27 x1 (fun h10 =>
      if inb (438 + x1) 713 = true then
      lt (h10.1 157 ((438 + x1).toNatClampNeg)) fun v12 =>
      itr3 (F_X13_standIn_70 x1 v12 (fun v28 h27 =>
        if inb (438 + x1) 713 = true then
        lt (sI h27 157 ((438 + x1).toNatClampNeg) v12) fun h30 =>
        some (v28, h30)
        else none)) N0 0 0 h10
      else none)) N0 0 h2)
def F_X13_only_2 (x0 : Int32) (k15 : Int32 → Hp → Option (Int32 × Hp)) (k23 : Hp → Option (Int32 × Hp)) (self : Int32 → Hp → Option (Int32 × Hp)) (x1 : Int32) (h : Hp) : Option (Int32 × Hp) :=
  if 8 ≤ x1 then
    k23 h
  else
    if x0 = (jshl 1 x1) then
      k15 x1 h
    else
      self (x1 + 1) h
def f_X13_only (x0 : Int32) (h : Hp) : Option (Int32 × Hp) :=
  itr2 (F_X13_only_2 x0 (fun v4 h3 =>
    some (v4, h3)) (fun h5 =>
    some ((-1), h5))) N0 0 h
def F_X13_safe_16 (k49 : Int32 → Hp → Option (Int32 × Hp)) (self : Int32 → Int32 → Hp → Option (Int32 × Hp)) (x1 : Int32) (x2 : Int32) (h : Hp) : Option (Int32 × Hp) :=
  if (h.1 157 ((3 : Int32).toNatClampNeg)) < x2 then
    k49 x1 h
  else
    if x1 < 0 then
      self x1 (x2 + 1) h
    else
      bnd (f_X13_textMeans x2 h) fun v9 h8 =>
      (if v9 = (jshl 1 x1) then
        self x1 (x2 + 1) h8
      else
        self (-1) (x2 + 1) h8)
def f_X13_safe (h : Hp) : Option (Int32 × Hp) :=
  lt (sI h 155 0 0) fun h1 =>
  bnd (f_X13_textMeans 1 h1) fun v3 h2 =>
  bnd (f_X13_only v3 h2) fun v5 h4 =>
  itr3 (F_X13_safe_16 (fun v12 h11 =>
    some (v12, h11))) N0 v5 2 h4
def F_X13_common_4 (k21 : Int32 → Hp → Option (Int32 × Hp)) (self : Int32 → Int32 → Hp → Option (Int32 × Hp)) (x2 : Int32) (x3 : Int32) (h : Hp) : Option (Int32 × Hp) :=
  if x3 = 0 then
    k21 x2 h
  else
    if nz x3 = true then
    lt (jrem x2 x3) fun v3 =>
    self x3 v3 h
    else none
def f_X13_common (x0 : Int32) (x1 : Int32) (h : Hp) : Option (Int32 × Hp) :=
  itr3 (F_X13_common_4 (fun v5 h4 =>
    some (v5, h4))) N0 x0 x1 h
def B_X13_known_82 (x1 : Int32) (x2 : Int32) (k108 : Int32 → Int32 → Hp → Option (Int32 × Hp)) (self : Int32 → Int32 → Int32 → Hp → Option (Int32 × Hp)) (x4 : Int32) (x5 : Int32) (t0 : Int32) (t1 : Int32) (h : Hp) : Option (Int32 × Hp) :=
  lt (t1 + t0) fun v11 =>
  if inb ((432 + x5) - 1) 713 = true then
  lt (x4 + (h.1 157 (((432 + x5) - 1).toNatClampNeg))) fun v13 =>
  self v11 v13 (x5 + 1) h
  else none
def F_X13_known_41 (x1 : Int32) (x2 : Int32) (k108 : Int32 → Int32 → Hp → Option (Int32 × Hp)) (self : Int32 → Int32 → Int32 → Hp → Option (Int32 × Hp)) (x3 : Int32) (x4 : Int32) (x5 : Int32) (h : Hp) : Option (Int32 × Hp) :=
  if (h.1 157 ((3 : Int32).toNatClampNeg)) < x5 then
    k108 x3 x4 h
  else
    bnd (f_X13_textMeans x5 h) fun v9 h8 =>
    (if v9 = (jshl 1 x1) then
      if inb ((432 + x5) - 1) 713 = true then
      B_X13_known_82 x1 x2 k108 self x4 x5 (h8.1 157 (((432 + x5) - 1).toNatClampNeg)) x3 h8
      else none
    else
      B_X13_known_82 x1 x2 k108 self x4 x5 0 x3 h8)
def B_X13_known_125 (x3 : Int32) (x4 : Int32) (t0 : Int32) (h : Hp) : Option (Int32 × Hp) :=
  bnd (f_X13_common x4 x3 h) fun v21 h20 =>
  if nz v21 = true then
  some (t0 / v21, h20)
  else none
def B_X13_known_25 (x1 : Int32) (x2 : Int32) (t0 : Int32) (h : Hp) : Option (Int32 × Hp) :=
  bnd (f_X13_throwsIf t0 h) fun v5 h4 =>
  (if v5 = 0 then
    itr4 (F_X13_known_41 x1 x2 (fun v16 v17 h15 =>
      if v17 = 0 then
        some (x2, h15)
      else
        if x2 = 0 then
          B_X13_known_125 v16 v17 v16 h15
        else
          B_X13_known_125 v16 v17 v17 h15)) N0 0 0 1 h4
  else
    some (0, h4))
def f_X13_known (x1 : Int32) (x2 : Int32) (h : Hp) : Option (Int32 × Hp) :=
  bnd (f_X13_isIn x1 0 7 h) fun v2 h1 =>
  (if v2 = 0 then
    B_X13_known_25 x1 x2 1 h1
  else
    bnd (f_X13_isIn x2 0 1 h1) fun v24 h23 =>
    (if v24 = 0 then
      B_X13_known_25 x1 x2 1 h23
    else
      B_X13_known_25 x1 x2 0 h23))
def F_X13_scans_43 (x1 : Int32) (x2 : Int32) (x3 : Int32) (k78 : Int32 → Hp → Option (Int32 × Hp)) (self : Int32 → Int32 → Hp → Option (Int32 × Hp)) (x4 : Int32) (x5 : Int32) (h : Hp) : Option (Int32 × Hp) :=
  if (h.1 155 27) ≤ x5 then
    k78 x4 h
  else
    if inb x5 24 = true then
    if inb (40 + (h.1 162 (x5.toNatClampNeg))) 713 = true then
    lt (x4 + (h.1 157 ((40 + (h.1 162 (x5.toNatClampNeg))).toNatClampNeg))) fun v10 =>
    self v10 (x5 + 1) h
    else none
    else none
def F_X13_scans_22 (x1 : Int32) (k100 : Int32 → Hp → Option (Int32 × Hp)) (self : Int32 → Int32 → Hp → Option (Int32 × Hp)) (x2 : Int32) (x3 : Int32) (h : Hp) : Option (Int32 × Hp) :=
  if (h.1 157 ((3 : Int32).toNatClampNeg)) < x3 then
    k100 x2 h
  else
    bnv (f_X13_leaveText x3 h) fun h6 =>
    itr3 (F_X13_scans_43 x1 x2 x3 (fun v12 h11 =>
      if v12 = x1 then
        lt (x2 ||| (jshl 1 x3)) fun v15 =>
        self v15 (x3 + 1) h11
      else
        lt (x2 ||| 0) fun v14 =>
        self v14 (x3 + 1) h11)) N0 0 0 h6
def f_X13_scans (x1 : Int32) (h : Hp) : Option (Int32 × Hp) :=
  lt (sI h 155 0 0) fun h1 =>
  bnd (f_X13_isIn x1 0 216 h1) fun v3 h2 =>
  (if v3 = 0 then
    some ((-1), h2)
  else
    itr3 (F_X13_scans_22 x1 (fun v17 h16 =>
      some (v17, h16))) N0 0 0 h2)
def F_X13_letters_82 (x1 : Int32) (x4 : Int32) (x5 : Int64) (k139 : Int32 → Int32 → Hp → Option (Int64 × Hp)) (self : Int32 → Int32 → Int32 → Hp → Option (Int64 × Hp)) (x2 : Int32) (x3 : Int32) (x7 : Int32) (h : Hp) : Option (Int64 × Hp) :=
  if x7 < 0 then
    k139 x2 x3 h
  else
    lt (((jlshr x5 x7) &&& 255).toInt32) fun v12 =>
    (if v12 = 0 then
      self x2 x3 (x7 + (-8)) h
    else
      bnd (f_X13_isStruck x1 (x2 + 1) h) fun v15 h14 =>
      (if v15 = 0 then
        if inb x3 144 = true then
        lt (sI h14 169 (x3.toNatClampNeg) v12) fun h18 =>
        self (x2 + 1) (x3 + 1) (x7 + (-8)) h18
        else none
      else
        self (x2 + 1) x3 (x7 + (-8)) h14))
def F_X13_letters_44 (x1 : Int32) (k145 : Int32 → Hp → Option (Int64 × Hp)) (self : Int32 → Int32 → Int32 → Hp → Option (Int64 × Hp)) (x2 : Int32) (x3 : Int32) (x4 : Int32) (h : Hp) : Option (Int64 × Hp) :=
  if (h.1 157 ((437 : Int32).toNatClampNeg)) ≤ x4 then
    k145 x3 h
  else
    if inb (438 + x4) 713 = true then
    if inb (8 + (h.1 157 ((438 + x4).toNatClampNeg))) 32 = true then
    lt (h.2.1 159 ((8 + (h.1 157 ((438 + x4).toNatClampNeg))).toNatClampNeg)) fun v10 =>
    itr4 (F_X13_letters_82 x1 x4 v10 (fun v20 v21 h19 =>
      self v20 v21 (x4 + 1) h19)) N0 x2 x3 56 h
    else none
    else none
def B_X13_letters_266 (x3 : Int32) (x4 : Int32) (x5 : Int64) (x7 : Int32) (k274 : Hp → Option (Int64 × Hp)) (self : Int32 → Hp → Option (Int64 × Hp)) (x8 : Int32) (t0 : Int64) (t1 : Int64) (t2 : Int32) (h : Hp) : Option (Int64 × Hp) :=
  if inb t2 145 = true then
  lt (sL h 170 (t2.toNatClampNeg) (t1 + t0)) fun h37 =>
  self (x8 + 1) h37
  else none
def F_X13_letters_220 (x3 : Int32) (x4 : Int32) (x5 : Int64) (x7 : Int32) (k274 : Hp → Option (Int64 × Hp)) (self : Int32 → Hp → Option (Int64 × Hp)) (x8 : Int32) (h : Hp) : Option (Int64 × Hp) :=
  if (h.1 157 ((2 : Int32).toNatClampNeg)) ≤ x8 then
    k274 h
  else
    if inb x4 145 = true then
    if inb (8 + x8) 32 = true then
    (if (lg_cmp (h.2.1 159 ((8 + x8).toNatClampNeg)) x5) = 0 then
      if inb x7 145 = true then
      B_X13_letters_266 x3 x4 x5 x7 k274 self x8 (h.2.1 170 (x7.toNatClampNeg)) (h.2.1 170 (x4.toNatClampNeg)) x4 h
      else none
    else
      B_X13_letters_266 x3 x4 x5 x7 k274 self x8 0 (h.2.1 170 (x4.toNatClampNeg)) x4 h)
    else none
    else none
def F_X13_letters_178 (x3 : Int32) (x4 : Int32) (k280 : Hp → Option (Int64 × Hp)) (self : Int64 → Int32 → Hp → Option (Int64 × Hp)) (x5 : Int64) (x7 : Int32) (h : Hp) : Option (Int64 × Hp) :=
  if x7 < 0 then
    k280 h
  else
    if 6 < (x4 - x7) then
      k280 h
    else
      if inb x7 144 = true then
      lt (x5 ||| (jlshl ((h.1 169 (x7.toNatClampNeg)).toInt64) (8 * ((x4 - 1) - x7)))) fun v31 =>
      itr2 (F_X13_letters_220 x3 x4 v31 x7 (fun h39 =>
        self v31 (x7 + (-1)) h39)) N0 0 h
      else none
def B_X13_letters_313 (x3 : Int32) (k320 : Hp → Option (Int64 × Hp)) (self : Int32 → Hp → Option (Int64 × Hp)) (x4 : Int32) (t0 : Int64) (t1 : Int32) (h : Hp) : Option (Int64 × Hp) :=
  if inb t1 145 = true then
  lt (sL h 170 (t1.toNatClampNeg) t0) fun h45 =>
  self (x4 + 1) h45
  else none
def B_X13_letters_280 (x3 : Int32) (k320 : Hp → Option (Int64 × Hp)) (self : Int32 → Hp → Option (Int64 × Hp)) (x4 : Int32) (h : Hp) : Option (Int64 × Hp) :=
  if inb x4 145 = true then
  (if (lg_cmp (h.2.1 170 (x4.toNatClampNeg)) 1000000000000000) ≤ 0 then
    if inb x4 145 = true then
    B_X13_letters_313 x3 k320 self x4 (h.2.1 170 (x4.toNatClampNeg)) x4 h
    else none
  else
    B_X13_letters_313 x3 k320 self x4 1000000000000000 x4 h)
  else none
def F_X13_letters_155 (x3 : Int32) (k320 : Hp → Option (Int64 × Hp)) (self : Int32 → Hp → Option (Int64 × Hp)) (x4 : Int32) (h : Hp) : Option (Int64 × Hp) :=
  if x3 < x4 then
    k320 h
  else
    if inb x4 145 = true then
    lt (sL h 170 (x4.toNatClampNeg) 0) fun h27 =>
    itr3 (F_X13_letters_178 x3 x4 (fun h40 =>
      B_X13_letters_280 x3 k320 self x4 h40)) N0 0 (x4 - 1) h27
    else none
def f_X13_letters (x1 : Int32) (h : Hp) : Option (Int64 × Hp) :=
  lt (sI h 155 0 0) fun h1 =>
  bnd (f_X13_isBeginning x1 h1) fun v3 h2 =>
  (if v3 = 0 then
    some ((-1), h2)
  else
    lt (sI h2 155 25 (h2.1 157 ((3 : Int32).toNatClampNeg))) fun h5 =>
    lt (sI h5 155 26 (h5.1 157 ((4 : Int32).toNatClampNeg))) fun h6 =>
    itr4 (F_X13_letters_44 x1 (fun v23 h22 =>
      lt (sL h22 170 ((0 : Int32).toNatClampNeg) 1) fun h24 =>
      itr2 (F_X13_letters_155 v23 (fun h46 =>
        if inb v23 145 = true then
        some (h46.2.1 170 (v23.toNatClampNeg), h46)
        else none)) N0 1 h24)) N0 0 0 0 h6)
def F_X13_begin_19 (k49 : Hp → Option Hp) (self : Int32 → Hp → Option Hp) (x2 : Int32) (h : Hp) : Option Hp :=
  if (h.1 155 25) < x2 then
    k49 h
  else
    if inb x2 84 = true then
    lt (sL h 171 (x2.toNatClampNeg) (-1)) fun h6 =>
    if inb x2 84 = true then
    lt (sI h6 175 (x2.toNatClampNeg) 0) fun h8 =>
    self (x2 + 1) h8
    else none
    else none
def f_X13_begin (x1 : Int32) (h : Hp) : Option Hp :=
  lt (sI h 155 44 x1) fun h1 =>
  lt (sI h1 155 43 0) fun h2 =>
  lt (sI h2 173 ((0 : Int32).toNatClampNeg) 0) fun h3 =>
  itr2 (F_X13_begin_19 (fun h9 =>
    some h9)) N0 0 h3
def B_X13_step_109 (x1 : Int32) (k117 : Hp → Option Hp) (self : Int32 → Hp → Option Hp) (x2 : Int32) (t0 : Int32) (t1 : Int32) (t2 : Int32) (h : Hp) : Option Hp :=
  if inb t2 84 = true then
  lt (sI h 175 (t2.toNatClampNeg) (t1 + t0)) fun h17 =>
  self (x2 + 1) h17
  else none
def B_X13_step_76 (x1 : Int32) (k117 : Hp → Option Hp) (self : Int32 → Hp → Option Hp) (x2 : Int32) (x3 : Int32) (x4 : Int32) (t0 : Int64) (t1 : Int32) (h : Hp) : Option Hp :=
  if inb t1 84 = true then
  lt (sL h 171 (t1.toNatClampNeg) t0) fun h12 =>
  if inb x3 84 = true then
  (if x4 = 0 then
    if inb (40 + x1) 713 = true then
    B_X13_step_109 x1 k117 self x2 (h12.1 157 ((40 + x1).toNatClampNeg)) (h12.1 175 (x3.toNatClampNeg)) (x3 + 6) h12
    else none
  else
    B_X13_step_109 x1 k117 self x2 0 (h12.1 175 (x3.toNatClampNeg)) (x3 + 6) h12)
  else none
  else none
def F_X13_step_12 (x1 : Int32) (k117 : Hp → Option Hp) (self : Int32 → Hp → Option Hp) (x2 : Int32) (h : Hp) : Option Hp :=
  if (h.1 155 25) < x2 then
    k117 h
  else
    lt ((6 * (h.1 155 43)) + x2) fun v4 =>
    bnd (f_X13_isStruck x2 ((h.1 155 43) + 1) h) fun v6 h5 =>
    (if v6 = 0 then
      if inb v4 84 = true then
      bnd (f_X13_comes (h5.2.1 171 (v4.toNatClampNeg)) x1 h5) fun v10 h9 =>
      B_X13_step_76 x1 k117 self x2 v4 v6 v10 (v4 + 6) h9
      else none
    else
      if inb v4 84 = true then
      B_X13_step_76 x1 k117 self x2 v4 v6 (h5.2.1 171 (v4.toNatClampNeg)) (v4 + 6) h5
      else none)
def f_X13_step (x1 : Int32) (h : Hp) : Option Hp :=
  if inb (h.1 155 43) 14 = true then
  lt (sI h 174 ((h.1 155 43).toNatClampNeg) x1) fun h2 =>
  itr2 (F_X13_step_12 x1 (fun h19 =>
    lt (sI h19 155 43 ((h19.1 155 43) + 1)) fun h20 =>
    some h20)) N0 0 h2
  else none
def F_X13_nextRow_21 (k90 : Hp → Option (Int32 × Hp)) (k105 : Hp → Option (Int32 × Hp)) (self : Hp → Option (Int32 × Hp)) (h : Hp) : Option (Int32 × Hp) :=
  if (h.1 155 43) < 0 then
    k105 h
  else
    if inb (h.1 155 43) 14 = true then
    lt (h.1 173 ((h.1 155 43).toNatClampNeg)) fun v4 =>
    if inb (h.1 155 43) 14 = true then
    if inb (h.1 155 43) 14 = true then
    lt (sI h 173 ((h.1 155 43).toNatClampNeg) ((h.1 173 ((h.1 155 43).toNatClampNeg)) + 1)) fun h7 =>
    (if v4 < (h7.1 157 ((2 : Int32).toNatClampNeg)) then
      bnv (f_X13_step v4 h7) fun h9 =>
      (if (h9.1 155 43) = (h9.1 155 44) then
        k90 h9
      else
        if inb (h9.1 155 43) 14 = true then
        lt (sI h9 173 ((h9.1 155 43).toNatClampNeg) 0) fun h12 =>
        self h12
        else none)
    else
      lt (sI h7 155 43 ((h7.1 155 43) - 1)) fun h13 =>
      self h13)
    else none
    else none
    else none
def f_X13_nextRow (h : Hp) : Option (Int32 × Hp) :=
  if (h.1 155 43) = (h.1 155 44) then
    lt (sI h 155 43 ((h.1 155 43) - 1)) fun h16 =>
    itr1 (F_X13_nextRow_21 (fun h17 =>
      some (1, h17)) (fun h18 =>
      some (0, h18))) N0 h16
  else
    itr1 (F_X13_nextRow_21 (fun h14 =>
      some (1, h14)) (fun h15 =>
      some (0, h15))) N0 h
def f_X13_meansNow (x1 : Int32) (h : Hp) : Option (Int32 × Hp) :=
  if inb ((6 * (h.1 155 43)) + x1) 84 = true then
  bnd (f_X13_ends (h.2.1 171 (((6 * (h.1 155 43)) + x1).toNatClampNeg)) h) fun v3 h2 =>
  some (v3, h2)
  else none
def F_X13_meetsGoals_2 (k39 : Hp → Option (Int32 × Hp)) (k57 : Hp → Option (Int32 × Hp)) (k65 : Hp → Option (Int32 × Hp)) (self : Int32 → Hp → Option (Int32 × Hp)) (x1 : Int32) (h : Hp) : Option (Int32 × Hp) :=
  if (h.1 155 25) < x1 then
    k65 h
  else
    bnd (f_X13_meansNow x1 h) fun v3 h2 =>
    if inb x1 6 = true then
    (if 8 ≤ (h2.1 172 (x1.toNatClampNeg)) then
      if inb x1 6 = true then
      (if (h2.1 172 (x1.toNatClampNeg)) = 8 then
        if v3 = 0 then
          self (x1 + 1) h2
        else
          k57 h2
      else
        self (x1 + 1) h2)
      else none
    else
      if inb x1 6 = true then
      (if v3 = (jshl 1 (h2.1 172 (x1.toNatClampNeg))) then
        self (x1 + 1) h2
      else
        k39 h2)
      else none)
    else none
def f_X13_meetsGoals (h : Hp) : Option (Int32 × Hp) :=
  itr2 (F_X13_meetsGoals_2 (fun h11 =>
    some (0, h11)) (fun h12 =>
    some (0, h12)) (fun h13 =>
    some (1, h13))) N0 0 h
def F_X13_hasBeats_2 (x1 : Int32) (k28 : Hp → Option (Int32 × Hp)) (k36 : Hp → Option (Int32 × Hp)) (self : Int32 → Hp → Option (Int32 × Hp)) (x2 : Int32) (h : Hp) : Option (Int32 × Hp) :=
  if (h.1 155 25) < x2 then
    k36 h
  else
    if inb ((6 * (h.1 155 43)) + x2) 84 = true then
    (if (h.1 175 (((6 * (h.1 155 43)) + x2).toNatClampNeg)) = x1 then
      self (x2 + 1) h
    else
      k28 h)
    else none
def f_X13_hasBeats (x1 : Int32) (h : Hp) : Option (Int32 × Hp) :=
  itr2 (F_X13_hasBeats_2 x1 (fun h4 =>
    some (0, h4)) (fun h5 =>
    some (1, h5))) N0 1 h
def B_X13_shortest_31 (x1 : Int32) (x2 : Int32) (x3 : Int32) (k38 : Hp → Option (Int32 × Hp)) (k40 : Hp → Option (Int32 × Hp)) (self : Hp → Option (Int32 × Hp)) (h : Hp) : Option (Int32 × Hp) :=
  bnd (f_X13_meetsGoals h) fun v8 h7 =>
  (if v8 = 0 then
    self h7
  else
    k38 h7)
def F_X13_shortest_12 (x1 : Int32) (x2 : Int32) (x3 : Int32) (k38 : Hp → Option (Int32 × Hp)) (k40 : Hp → Option (Int32 × Hp)) (self : Hp → Option (Int32 × Hp)) (h : Hp) : Option (Int32 × Hp) :=
  bnd (f_X13_nextRow h) fun v4 h3 =>
  (if v4 = 0 then
    k40 h3
  else
    if x2 < 0 then
      B_X13_shortest_31 x1 x2 x3 k38 k40 self h3
    else
      bnd (f_X13_hasBeats x2 h3) fun v11 h10 =>
      (if v11 = 0 then
        self h10
      else
        B_X13_shortest_31 x1 x2 x3 k38 k40 self h10))
def F_X13_shortest_2 (x1 : Int32) (x2 : Int32) (k38 : Int32 → Hp → Option (Int32 × Hp)) (k46 : Hp → Option (Int32 × Hp)) (self : Int32 → Hp → Option (Int32 × Hp)) (x3 : Int32) (h : Hp) : Option (Int32 × Hp) :=
  if x1 < x3 then
    k46 h
  else
    bnv (f_X13_begin x3 h) fun h2 =>
    itr1 (F_X13_shortest_12 x1 x2 x3 (fun h13 =>
      k38 x3 h13) (fun h14 =>
      self (x3 + 1) h14)) N0 h2
def f_X13_shortest (x1 : Int32) (x2 : Int32) (h : Hp) : Option (Int32 × Hp) :=
  itr2 (F_X13_shortest_2 x1 x2 (fun v16 h15 =>
    some (v16, h15)) (fun h17 =>
    some ((-1), h17))) N0 1 h
def F_X13_takesGoals_35 (k65 : Hp → Option (Int32 × Hp)) (k73 : Hp → Option (Int32 × Hp)) (self : Int32 → Hp → Option (Int32 × Hp)) (x1 : Int32) (h : Hp) : Option (Int32 × Hp) :=
  if (h.1 155 3) ≤ x1 then
    k73 h
  else
    bnd (f_X13_octet x1 h) fun v6 h5 =>
    if inb x1 6 = true then
    lt (sI h5 172 (x1.toNatClampNeg) v6) fun h8 =>
    if inb x1 6 = true then
    (if (h8.1 172 (x1.toNatClampNeg)) ≤ 9 then
      self (x1 + 1) h8
    else
      k65 h8)
    else none
    else none
def f_X13_takesGoals (h : Hp) : Option (Int32 × Hp) :=
  bnv (f_X13_taken 940 h) fun h1 =>
  (if (h1.1 157 ((2 : Int32).toNatClampNeg)) = 0 then
    some (0, h1)
  else
    if (h1.1 155 3) = ((h1.1 157 ((3 : Int32).toNatClampNeg)) + 1) then
      itr2 (F_X13_takesGoals_35 (fun h11 =>
        some (0, h11)) (fun h12 =>
        bnv (f_X13_settle h12) fun h13 =>
        some (1, h13))) N0 0 h1
    else
      some (0, h1))
def F_X13_keepRow_13 (x1 : Int32) (k36 : Hp → Option (Int32 × Hp)) (self : Int32 → Hp → Option (Int32 × Hp)) (x2 : Int32) (h : Hp) : Option (Int32 × Hp) :=
  if x1 ≤ x2 then
    k36 h
  else
    if inb x2 14 = true then
    if inb x2 24 = true then
    lt (sI h 176 (x2.toNatClampNeg) (h.1 174 (x2.toNatClampNeg))) fun h6 =>
    self (x2 + 1) h6
    else none
    else none
def f_X13_keepRow (x1 : Int32) (h : Hp) : Option (Int32 × Hp) :=
  if 0 ≤ x1 then
    lt (sI h 155 42 x1) fun h2 =>
    itr2 (F_X13_keepRow_13 x1 (fun h7 =>
      some (x1, h7))) N0 0 h2
  else
    some ((-1), h)
def f_X13_find_ (x1 : Int32) (h : Hp) : Option (Int32 × Hp) :=
  lt (sI h 155 0 0) fun h1 =>
  bnd (f_X13_takesGoals h1) fun v3 h2 =>
  (if v3 = 0 then
    some ((-2), h2)
  else
    bnd (f_X13_isIn x1 1 6 h2) fun v6 h5 =>
    (if v6 = 0 then
      some ((-2), h5)
    else
      bnd (f_X13_shortest x1 (-1) h5) fun v9 h8 =>
      bnd (f_X13_keepRow v9 h8) fun v11 h10 =>
      some (v11, h10)))
def f_X13_verse (x1 : Int32) (x2 : Int32) (h : Hp) : Option (Int32 × Hp) :=
  lt (sI h 155 0 0) fun h1 =>
  bnd (f_X13_takesGoals h1) fun v3 h2 =>
  (if v3 = 0 then
    some ((-2), h2)
  else
    bnd (f_X13_isIn x2 1 6 h2) fun v6 h5 =>
    (if v6 = 0 then
      some ((-2), h5)
    else
      bnd (f_X13_isIn x1 0 54 h5) fun v9 h8 =>
      (if v9 = 0 then
        some ((-2), h8)
      else
        bnd (f_X13_shortest x2 x1 h8) fun v12 h11 =>
        bnd (f_X13_keepRow v12 h11) fun v14 h13 =>
        some (v14, h13))))
def F_X13_cheapest_51 (x1 : Int32) (x2 : Int32) (x3 : Int32) (k83 : Int32 → Hp → Option (Int32 × Hp)) (self : Int32 → Int32 → Hp → Option (Int32 × Hp)) (x4 : Int32) (x5 : Int32) (h : Hp) : Option (Int32 × Hp) :=
  if x3 ≤ x5 then
    k83 x4 h
  else
    if inb x5 14 = true then
    if inb (56 + (h.1 174 (x5.toNatClampNeg))) 713 = true then
    lt (x4 + (h.1 157 ((56 + (h.1 174 (x5.toNatClampNeg))).toNatClampNeg))) fun v16 =>
    self v16 (x5 + 1) h
    else none
    else none
def B_X13_cheapest_93 (x1 : Int32) (x3 : Int32) (k115 : Int32 → Hp → Option (Int32 × Hp)) (self : Int32 → Hp → Option (Int32 × Hp)) (x2 : Int32) (x4 : Int32) (h : Hp) : Option (Int32 × Hp) :=
  bnd (f_X13_meetsGoals h) fun v21 h20 =>
  (if v21 = 0 then
    self x2 h20
  else
    bnd (f_X13_keepRow x3 h20) fun v24 h23 =>
    self x4 h23)
def F_X13_cheapest_38 (x1 : Int32) (x3 : Int32) (k115 : Int32 → Hp → Option (Int32 × Hp)) (self : Int32 → Hp → Option (Int32 × Hp)) (x2 : Int32) (h : Hp) : Option (Int32 × Hp) :=
  bnd (f_X13_nextRow h) fun v11 h10 =>
  (if v11 = 0 then
    k115 x2 h10
  else
    itr3 (F_X13_cheapest_51 x1 x2 x3 (fun v18 h17 =>
      if x2 < 0 then
        B_X13_cheapest_93 x1 x3 k115 self x2 v18 h17
      else
        if x2 ≤ v18 then
          self x2 h17
        else
          B_X13_cheapest_93 x1 x3 k115 self x2 v18 h17)) N0 0 0 h10)
def F_X13_cheapest_28 (x1 : Int32) (k121 : Int32 → Hp → Option (Int32 × Hp)) (self : Int32 → Int32 → Hp → Option (Int32 × Hp)) (x2 : Int32) (x3 : Int32) (h : Hp) : Option (Int32 × Hp) :=
  if x1 < x3 then
    k121 x2 h
  else
    bnv (f_X13_begin x3 h) fun h9 =>
    itr2 (F_X13_cheapest_38 x1 x3 (fun v27 h26 =>
      self v27 (x3 + 1) h26)) N0 x2 h9
def f_X13_cheapest (x1 : Int32) (h : Hp) : Option (Int32 × Hp) :=
  lt (sI h 155 0 0) fun h1 =>
  bnd (f_X13_takesGoals h1) fun v3 h2 =>
  (if v3 = 0 then
    some ((-2), h2)
  else
    bnd (f_X13_isIn x1 1 5 h2) fun v6 h5 =>
    (if v6 = 0 then
      some ((-2), h5)
    else
      itr3 (F_X13_cheapest_28 x1 (fun v29 h28 =>
        some (v29, h28))) N0 (-1) 1 h5))
def B_X13_longer_66 (x1 : Int32) (x2 : Int32) (k73 : Hp → Option (Int32 × Hp)) (self : Int32 → Hp → Option (Int32 × Hp)) (x3 : Int32) (t0 : Int32) (t1 : Int32) (h : Hp) : Option (Int32 × Hp) :=
  if inb t1 6 = true then
  lt (sI h 172 (t1.toNatClampNeg) t0) fun h13 =>
  self (x3 + 1) h13
  else none
def F_X13_longer_43 (x1 : Int32) (x2 : Int32) (k73 : Hp → Option (Int32 × Hp)) (self : Int32 → Hp → Option (Int32 × Hp)) (x3 : Int32) (h : Hp) : Option (Int32 × Hp) :=
  if (h.1 155 25) < x3 then
    k73 h
  else
    if x3 = 0 then
      B_X13_longer_66 x1 x2 k73 self x3 9 x3 h
    else
      B_X13_longer_66 x1 x2 k73 self x3 x1 x3 h
def B_X13_longer_109 (x1 : Int32) (x2 : Int32) (x3 : Int32) (k116 : Hp → Option (Int32 × Hp)) (self : Int32 → Hp → Option (Int32 × Hp)) (x4 : Int32) (t0 : Int32) (t1 : Int32) (h : Hp) : Option (Int32 × Hp) :=
  if inb t1 6 = true then
  lt (sI h 172 (t1.toNatClampNeg) t0) fun h20 =>
  self (x4 + 1) h20
  else none
def F_X13_longer_83 (x1 : Int32) (x2 : Int32) (x3 : Int32) (k116 : Hp → Option (Int32 × Hp)) (self : Int32 → Hp → Option (Int32 × Hp)) (x4 : Int32) (h : Hp) : Option (Int32 × Hp) :=
  if (h.1 155 25) < x4 then
    k116 h
  else
    if x4 = 0 then
      B_X13_longer_109 x1 x2 x3 k116 self x4 x1 x4 h
    else
      B_X13_longer_109 x1 x2 x3 k116 self x4 9 x4 h
def f_X13_longer (x1 : Int32) (x2 : Int32) (h : Hp) : Option (Int32 × Hp) :=
  lt (sI h 155 0 0) fun h1 =>
  bnd (f_X13_isIn x1 0 7 h1) fun v3 h2 =>
  (if v3 = 0 then
    some ((-7), h2)
  else
    bnd (f_X13_isIn x2 1 6 h2) fun v6 h5 =>
    (if v6 = 0 then
      some ((-7), h5)
    else
      if (h5.1 157 ((2 : Int32).toNatClampNeg)) = 0 then
        some ((-7), h5)
      else
        bnv (f_X13_settle h5) fun h9 =>
        itr2 (F_X13_longer_43 x1 x2 (fun h14 =>
          bnd (f_X13_shortest x2 (-1) h14) fun v16 h15 =>
          itr2 (F_X13_longer_83 x1 x2 v16 (fun h21 =>
            bnd (f_X13_shortest x2 (-1) h21) fun v23 h22 =>
            (if v16 < 0 then
              some ((-7), h22)
            else
              if 0 ≤ v23 then
                some (v16 - v23, h22)
              else
                some ((-7), h22)))) N0 0 h15)) N0 0 h9))
def f_X13_foundAt (x1 : Int32) (h : Hp) : Option (Int32 × Hp) :=
  lt (sI h 155 0 0) fun h1 =>
  bnd (f_X13_isIn x1 0 ((h1.1 155 42) - 1) h1) fun v3 h2 =>
  (if v3 = 0 then
    some ((-1), h2)
  else
    if inb x1 24 = true then
    some (h2.1 176 (x1.toNatClampNeg), h2)
    else none)
def B_X13_other_89 (x1 : Int32) (x3 : Int32) (x4 : Int32) (k96 : Hp → Option (Int32 × Hp)) (self : Int32 → Hp → Option (Int32 × Hp)) (x5 : Int32) (t0 : Int32) (t1 : Int32) (h : Hp) : Option (Int32 × Hp) :=
  if inb t1 6 = true then
  lt (sI h 172 (t1.toNatClampNeg) t0) fun h20 =>
  self (x5 + 1) h20
  else none
def F_X13_other_66 (x1 : Int32) (x3 : Int32) (x4 : Int32) (k96 : Hp → Option (Int32 × Hp)) (self : Int32 → Hp → Option (Int32 × Hp)) (x5 : Int32) (h : Hp) : Option (Int32 × Hp) :=
  if x1 < x5 then
    k96 h
  else
    if x5 = 0 then
      B_X13_other_89 x1 x3 x4 k96 self x5 9 x5 h
    else
      B_X13_other_89 x1 x3 x4 k96 self x5 x3 x5 h
def f_X13_other (x1 : Int32) (x2 : Int32) (x3 : Int32) (x4 : Int32) (h : Hp) : Option (Int32 × Hp) :=
  lt (sI h 155 0 0) fun h1 =>
  bnd (f_X13_isIn x1 2 5 h1) fun v3 h2 =>
  (if v3 = 0 then
    some ((-2), h2)
  else
    bnd (f_X13_isIn x2 1 (x1 - 1) h2) fun v6 h5 =>
    (if v6 = 0 then
      some ((-2), h5)
    else
      bnd (f_X13_isIn x3 0 7 h5) fun v9 h8 =>
      (if v9 = 0 then
        some ((-2), h8)
      else
        bnd (f_X13_isIn x4 1 6 h8) fun v12 h11 =>
        (if v12 = 0 then
          some ((-2), h11)
        else
          bnv (f_X13_settle h11) fun h14 =>
          lt (sI h14 155 25 x1) fun h15 =>
          lt (sI h15 155 26 x2) fun h16 =>
          itr2 (F_X13_other_66 x1 x3 x4 (fun h21 =>
            bnd (f_X13_shortest x4 (-1) h21) fun v23 h22 =>
            some (v23, h22))) N0 0 h16))))
def F_X13_sayableIn_34 (x1 : Int32) (x2 : Int32) (x3 : Int32) (k70 : Int32 → Hp → Option (Int32 × Hp)) (self : Int32 → Int32 → Hp → Option (Int32 × Hp)) (x4 : Int32) (x5 : Int32) (h : Hp) : Option (Int32 × Hp) :=
  if (h.1 155 25) < x5 then
    k70 x4 h
  else
    if x4 < 0 then
      k70 x4 h
    else
      bnd (f_X13_meansNow x5 h) fun v13 h12 =>
      (if v13 = (jshl 1 x4) then
        self x4 (x5 + 1) h12
      else
        self (-1) (x5 + 1) h12)
def B_X13_sayableIn_70 (x1 : Int32) (x3 : Int32) (k89 : Int32 → Hp → Option (Int32 × Hp)) (self : Int32 → Hp → Option (Int32 × Hp)) (x2 : Int32) (x4 : Int32) (h : Hp) : Option (Int32 × Hp) :=
  if 0 ≤ x4 then
    lt (x2 ||| (jshl 1 x4)) fun v18 =>
    self v18 h
  else
    lt (x2 ||| 0) fun v19 =>
    self v19 h
def F_X13_sayableIn_14 (x1 : Int32) (x3 : Int32) (k89 : Int32 → Hp → Option (Int32 × Hp)) (self : Int32 → Hp → Option (Int32 × Hp)) (x2 : Int32) (h : Hp) : Option (Int32 × Hp) :=
  bnd (f_X13_nextRow h) fun v4 h3 =>
  (if v4 = 0 then
    k89 x2 h3
  else
    bnd (f_X13_meansNow 1 h3) fun v7 h6 =>
    bnd (f_X13_only v7 h6) fun v9 h8 =>
    itr3 (F_X13_sayableIn_34 x1 x2 x3 (fun v16 h15 =>
      B_X13_sayableIn_70 x1 x3 k89 self x2 v16 h15)) N0 v9 2 h8)
def F_X13_sayableIn_4 (x1 : Int32) (k95 : Int32 → Hp → Option (Int32 × Hp)) (self : Int32 → Int32 → Hp → Option (Int32 × Hp)) (x2 : Int32) (x3 : Int32) (h : Hp) : Option (Int32 × Hp) :=
  if x1 < x3 then
    k95 x2 h
  else
    bnv (f_X13_begin x3 h) fun h2 =>
    itr2 (F_X13_sayableIn_14 x1 x3 (fun v21 h20 =>
      self v21 (x3 + 1) h20)) N0 x2 h2
def f_X13_sayableIn (x1 : Int32) (h : Hp) : Option (Int32 × Hp) :=
  itr3 (F_X13_sayableIn_4 x1 (fun v23 h22 =>
    some (v23, h22))) N0 0 1 h
def F_X13_many_4 (x0 : Int32) (k32 : Int32 → Hp → Option (Int32 × Hp)) (self : Int32 → Int32 → Hp → Option (Int32 × Hp)) (x1 : Int32) (x2 : Int32) (h : Hp) : Option (Int32 × Hp) :=
  if 8 ≤ x2 then
    k32 x1 h
  else
    bnd (f_X13_has x0 x2 h) fun v3 h2 =>
    (if v3 = 0 then
      self (x1 + 0) (x2 + 1) h2
    else
      self (x1 + 1) (x2 + 1) h2)
def f_X13_many (x0 : Int32) (h : Hp) : Option (Int32 × Hp) :=
  itr3 (F_X13_many_4 x0 (fun v6 h5 =>
    some (v6, h5))) N0 0 0 h
def f_X13_sayable (x1 : Int32) (h : Hp) : Option (Int32 × Hp) :=
  lt (sI h 155 0 0) fun h1 =>
  bnd (f_X13_isIn x1 1 5 h1) fun v3 h2 =>
  (if v3 = 0 then
    some ((-1), h2)
  else
    bnv (f_X13_settle h2) fun h5 =>
    bnd (f_X13_sayableIn x1 h5) fun v7 h6 =>
    some (v7, h6))
def F_X13_link_48 (x1 : Int32) (x4 : Int32) (k141 : Int32 → Int32 → Hp → Option (Int32 × Hp)) (self : Int32 → Int32 → Int32 → Hp → Option (Int32 × Hp)) (x2 : Int32) (x3 : Int32) (x5 : Int32) (h : Hp) : Option (Int32 × Hp) :=
  if (h.1 157 ((0 : Int32).toNatClampNeg)) ≤ x5 then
    k141 x2 x3 h
  else
    if inb ((5 * x4) + x5) 25 = true then
    (if (h.1 166 (((5 * x4) + x5).toNatClampNeg)) = 1 then
      self x2 x3 (x5 + 1) h
    else
      if inb ((5 * x4) + x5) 25 = true then
      lt (sI h 166 (((5 * x4) + x5).toNatClampNeg) 1) fun h15 =>
      bnd (f_X13_sayableIn x1 h15) fun v17 h16 =>
      bnd (f_X13_many v17 h16) fun v19 h18 =>
      if inb ((5 * x4) + x5) 25 = true then
      lt (sI h18 166 (((5 * x4) + x5).toNatClampNeg) 0) fun h21 =>
      (if x3 < v19 then
        lt ((10 * x4) + x5) fun v23 =>
        self v23 v19 (x5 + 1) h21
      else
        self x2 x3 (x5 + 1) h21)
      else none
      else none)
    else none
def F_X13_link_34 (x1 : Int32) (k147 : Int32 → Hp → Option (Int32 × Hp)) (self : Int32 → Int32 → Int32 → Hp → Option (Int32 × Hp)) (x2 : Int32) (x3 : Int32) (x4 : Int32) (h : Hp) : Option (Int32 × Hp) :=
  if (h.1 157 ((0 : Int32).toNatClampNeg)) ≤ x4 then
    k147 x2 h
  else
    itr4 (F_X13_link_48 x1 x4 (fun v25 v26 h24 =>
      self v25 v26 (x4 + 1) h24)) N0 x2 x3 0 h
def f_X13_link (x1 : Int32) (h : Hp) : Option (Int32 × Hp) :=
  lt (sI h 155 0 0) fun h1 =>
  bnd (f_X13_isIn x1 1 4 h1) fun v3 h2 =>
  (if v3 = 0 then
    some ((-1), h2)
  else
    bnv (f_X13_settle h2) fun h5 =>
    bnd (f_X13_sayableIn x1 h5) fun v7 h6 =>
    bnd (f_X13_many v7 h6) fun v9 h8 =>
    itr4 (F_X13_link_34 x1 (fun v28 h27 =>
      some (v28, h27))) N0 (-1) v9 0 h8)
def F_X13_lend_93 (x1 : Int32) (x2 : Int32) (x3 : Int32) (x4 : Int32) (x5 : Int32) (x6 : Int32) (k123 : Hp → Option (Int32 × Hp)) (self : Int32 → Hp → Option (Int32 × Hp)) (x7 : Int32) (h : Hp) : Option (Int32 × Hp) :=
  if 256 ≤ x7 then
    k123 h
  else
    if inb ((256 * x6) + x7) 10240 = true then
    lt (sI h 164 (((256 * x6) + x7).toNatClampNeg) x7) fun h19 =>
    self (x7 + 1) h19
    else none
def F_X13_lend_48 (x1 : Int32) (x4 : Int32) (k173 : Int32 → Int32 → Hp → Option (Int32 × Hp)) (self : Int32 → Int32 → Int32 → Hp → Option (Int32 × Hp)) (x2 : Int32) (x3 : Int32) (x5 : Int32) (h : Hp) : Option (Int32 × Hp) :=
  if (h.1 157 ((0 : Int32).toNatClampNeg)) ≤ x5 then
    k173 x2 x3 h
  else
    lt ((5 * x4) + x5) fun v12 =>
    if inb v12 40 = true then
    (if (h.1 165 (v12.toNatClampNeg)) = 1 then
      self x2 x3 (x5 + 1) h
    else
      if inb v12 40 = true then
      lt (sI h 165 (v12.toNatClampNeg) 1) fun h16 =>
      itr2 (F_X13_lend_93 x1 x2 x3 x4 x5 v12 (fun h20 =>
        bnd (f_X13_sayableIn x1 h20) fun v22 h21 =>
        bnd (f_X13_many v22 h21) fun v24 h23 =>
        if inb v12 40 = true then
        lt (sI h23 165 (v12.toNatClampNeg) 0) fun h26 =>
        lt (sI h26 155 31 1) fun h27 =>
        (if x3 < v24 then
          lt ((10 * x4) + x5) fun v29 =>
          self v29 v24 (x5 + 1) h27
        else
          self x2 x3 (x5 + 1) h27)
        else none)) N0 0 h16
      else none)
    else none
def F_X13_lend_34 (x1 : Int32) (k179 : Int32 → Hp → Option (Int32 × Hp)) (self : Int32 → Int32 → Int32 → Hp → Option (Int32 × Hp)) (x2 : Int32) (x3 : Int32) (x4 : Int32) (h : Hp) : Option (Int32 × Hp) :=
  if (h.1 157 ((2 : Int32).toNatClampNeg)) ≤ x4 then
    k179 x2 h
  else
    itr4 (F_X13_lend_48 x1 x4 (fun v31 v32 h30 =>
      self v31 v32 (x4 + 1) h30)) N0 x2 x3 0 h
def f_X13_lend (x1 : Int32) (h : Hp) : Option (Int32 × Hp) :=
  lt (sI h 155 0 0) fun h1 =>
  bnd (f_X13_isIn x1 1 4 h1) fun v3 h2 =>
  (if v3 = 0 then
    some ((-1), h2)
  else
    bnv (f_X13_settle h2) fun h5 =>
    bnd (f_X13_sayableIn x1 h5) fun v7 h6 =>
    bnd (f_X13_many v7 h6) fun v9 h8 =>
    itr4 (F_X13_lend_34 x1 (fun v34 h33 =>
      some (v34, h33))) N0 (-1) v9 0 h8)
def B_X13_placesBehind_70 (x1 : Int32) (x2 : Int32) (x3 : Int32) (x4 : Int32) (k109 : Int32 → Hp → Option (Int32 × Hp)) (self : Int32 → Int32 → Hp → Option (Int32 × Hp)) (x5 : Int32) (x6 : Int32) (h : Hp) : Option (Int32 × Hp) :=
  if inb (64 + x2) 713 = true then
  (if (h.1 157 ((64 + x2).toNatClampNeg)) = 1 then
    if x4 < ((x3 + 1) - x6) then
      self x5 (x6 + 1) h
    else
      lt (x5 ||| (jshl 1 x6)) fun v9 =>
      self v9 (x6 + 1) h
  else
    self x5 (x6 + 1) h)
  else none
def F_X13_placesBehind_6 (x1 : Int32) (x2 : Int32) (x3 : Int32) (x4 : Int32) (k109 : Int32 → Hp → Option (Int32 × Hp)) (self : Int32 → Int32 → Hp → Option (Int32 × Hp)) (x5 : Int32) (x6 : Int32) (h : Hp) : Option (Int32 × Hp) :=
  if (h.1 157 ((437 : Int32).toNatClampNeg)) < x6 then
    k109 x5 h
  else
    bnd (f_X13_has x1 x6 h) fun v3 h2 =>
    (if v3 = 0 then
      self x5 (x6 + 1) h2
    else
      if (h2.1 157 ((437 : Int32).toNatClampNeg)) ≤ x6 then
        B_X13_placesBehind_70 x1 x2 x3 x4 k109 self x5 x6 h2
      else
        if inb (438 + x6) 713 = true then
        (if (h2.1 157 ((438 + x6).toNatClampNeg)) = x2 then
          lt (x5 ||| (jshl 1 (x6 + 1))) fun v12 =>
          B_X13_placesBehind_70 x1 x2 x3 x4 k109 self v12 x6 h2
        else
          B_X13_placesBehind_70 x1 x2 x3 x4 k109 self x5 x6 h2)
        else none)
def f_X13_placesBehind (x1 : Int32) (x2 : Int32) (x3 : Int32) (x4 : Int32) (h : Hp) : Option (Int32 × Hp) :=
  itr3 (F_X13_placesBehind_6 x1 x2 x3 x4 (fun v14 h13 =>
    some (v14, h13))) N0 0 0 h
def F_X13_mends_84 (x1 : Int32) (x2 : Int32) (k121 : Int32 → Hp → Option (Int32 × Hp)) (self : Int32 → Int32 → Hp → Option (Int32 × Hp)) (x3 : Int32) (x4 : Int32) (h : Hp) : Option (Int32 × Hp) :=
  if (h.1 155 25) < x4 then
    k121 x3 h
  else
    if x3 = 0 then
      k121 x3 h
    else
      bnd (f_X13_meansNow x4 h) fun v30 h29 =>
      (if v30 = (jshl 1 x2) then
        self 1 (x4 + 1) h29
      else
        self 0 (x4 + 1) h29)
def B_X13_mends_121 (x1 : Int32) (k125 : Hp → Option (Int32 × Hp)) (k254 : Hp → Option (Int32 × Hp)) (self : Hp → Option (Int32 × Hp)) (x3 : Int32) (h : Hp) : Option (Int32 × Hp) :=
  if x3 = 0 then
    lt (sI h 155 43 ((h.1 155 43) - 1)) fun h35 =>
    self h35
  else
    k125 h
def F_X13_mends_21 (x1 : Int32) (k125 : Hp → Option (Int32 × Hp)) (k254 : Hp → Option (Int32 × Hp)) (self : Hp → Option (Int32 × Hp)) (h : Hp) : Option (Int32 × Hp) :=
  if (h.1 155 43) < 0 then
    k254 h
  else
    if (h.1 155 43) = (h.1 155 44) then
      bnd (f_X13_meansNow 0 h) fun v23 h22 =>
      bnd (f_X13_only v23 h22) fun v25 h24 =>
      (if v25 < 0 then
        itr3 (F_X13_mends_84 x1 v25 (fun v33 h32 =>
          B_X13_mends_121 x1 k125 k254 self v33 h32)) N0 0 1 h24
      else
        if inb (h24.1 155 43) 15 = true then
        bnd (f_X13_has (h24.1 177 ((h24.1 155 43).toNatClampNeg)) (h24.1 157 ((437 : Int32).toNatClampNeg)) h24) fun v38 h37 =>
        (if v38 = 0 then
          itr3 (F_X13_mends_84 x1 v25 (fun v41 h40 =>
            B_X13_mends_121 x1 k125 k254 self v41 h40)) N0 0 1 h37
        else
          itr3 (F_X13_mends_84 x1 v25 (fun v43 h42 =>
            B_X13_mends_121 x1 k125 k254 self v43 h42)) N0 1 1 h37)
        else none)
    else
      if inb (h.1 155 43) 14 = true then
      lt (h.1 173 ((h.1 155 43).toNatClampNeg)) fun v6 =>
      if inb (h.1 155 43) 14 = true then
      if inb (h.1 155 43) 14 = true then
      lt (sI h 173 ((h.1 155 43).toNatClampNeg) ((h.1 173 ((h.1 155 43).toNatClampNeg)) + 1)) fun h9 =>
      (if v6 < (h9.1 157 ((2 : Int32).toNatClampNeg)) then
        if inb (h9.1 155 43) 15 = true then
        bnd (f_X13_placesBehind (h9.1 177 ((h9.1 155 43).toNatClampNeg)) v6 (h9.1 155 43) x1 h9) fun v13 h12 =>
        (if v13 = 0 then
          self h12
        else
          if inb ((h12.1 155 43) + 1) 15 = true then
          lt (sI h12 177 (((h12.1 155 43) + 1).toNatClampNeg) v13) fun h16 =>
          bnv (f_X13_step v6 h16) fun h17 =>
          (if (h17.1 155 44) ≤ (h17.1 155 43) then
            self h17
          else
            if inb (h17.1 155 43) 14 = true then
            lt (sI h17 173 ((h17.1 155 43).toNatClampNeg) 0) fun h20 =>
            self h20
            else none)
          else none)
        else none
      else
        lt (sI h9 155 43 ((h9.1 155 43) - 1)) fun h21 =>
        self h21)
      else none
      else none
      else none
def f_X13_mends (x1 : Int32) (h : Hp) : Option (Int32 × Hp) :=
  bnv (f_X13_begin ((h.1 157 ((437 : Int32).toNatClampNeg)) + x1) h) fun h1 =>
  lt (sI h1 177 ((0 : Int32).toNatClampNeg) 1) fun h2 =>
  itr1 (F_X13_mends_21 x1 (fun h44 =>
    some (1, h44)) (fun h45 =>
    some (0, h45))) N0 h2
def F_X13_mend_31 (k47 : Int32 → Hp → Option (Int32 × Hp)) (k70 : Hp → Option (Int32 × Hp)) (self : Int32 → Hp → Option (Int32 × Hp)) (x1 : Int32) (h : Hp) : Option (Int32 × Hp) :=
  if 4 ≤ x1 then
    k70 h
  else
    bnd (f_X13_mends x1 h) fun v8 h7 =>
    (if v8 = 0 then
      self (x1 + 1) h7
    else
      k47 x1 h7)
def f_X13_mend (h : Hp) : Option (Int32 × Hp) :=
  lt (sI h 155 0 0) fun h1 =>
  bnd (f_X13_isIn (h1.1 157 ((437 : Int32).toNatClampNeg)) 1 10 h1) fun v3 h2 =>
  (if v3 = 0 then
    some ((-2), h2)
  else
    bnv (f_X13_settle h2) fun h5 =>
    itr2 (F_X13_mend_31 (fun v11 h10 =>
      bnd (f_X13_keepRow ((h10.1 157 ((437 : Int32).toNatClampNeg)) + v11) h10) fun v13 h12 =>
      some (v11, h12)) (fun h14 =>
      some ((-1), h14))) N0 0 h5)
def f_X13_mayBe (x1 : Int32) (x2 : Int32) (h : Hp) : Option (Int32 × Hp) :=
  if inb x1 12 = true then
  (if (h.1 178 (x1.toNatClampNeg)) < 0 then
    some (1, h)
  else
    if inb x1 12 = true then
    (if (h.1 178 (x1.toNatClampNeg)) = x2 then
      some (1, h)
    else
      some (0, h))
    else none)
  else none
def F_X13_countTorn_36 (x1 : Int32) (x2 : Int32) (x3 : Int32) (k92 : Int64 → Hp → Option (Int64 × Hp)) (self : Int64 → Int32 → Hp → Option (Int64 × Hp)) (x4 : Int64) (x6 : Int32) (h : Hp) : Option (Int64 × Hp) :=
  if 5 ≤ x6 then
    k92 x4 h
  else
    if x2 ≤ 0 then
      k92 x4 h
    else
      if inb ((15 + (5 * x6)) + x3) 713 = true then
      (if (h.1 157 (((15 + (5 * x6)) + x3).toNatClampNeg)) = 1 then
        if inb ((5 * (x2 - 1)) + x6) 60 = true then
        lt (x4 + (h.2.1 181 (((5 * (x2 - 1)) + x6).toNatClampNeg))) fun v9 =>
        self v9 (x6 + 1) h
        else none
      else
        self (x4 + 0) (x6 + 1) h)
      else none
def F_X13_countTorn_98 (x1 : Int32) (x2 : Int32) (x3 : Int32) (x4 : Int64) (k148 : Int32 → Hp → Option (Int64 × Hp)) (self : Int32 → Int32 → Hp → Option (Int64 × Hp)) (x6 : Int32) (x7 : Int32) (h : Hp) : Option (Int64 × Hp) :=
  if (h.1 157 ((2 : Int32).toNatClampNeg)) ≤ x7 then
    k148 x6 h
  else
    bnd (f_X13_mayBe x2 x7 h) fun v14 h13 =>
    (if v14 = 0 then
      self (x6 + 0) (x7 + 1) h13
    else
      if inb ((72 + (5 * x7)) + x3) 713 = true then
      lt (x6 + (h13.1 157 (((72 + (5 * x7)) + x3).toNatClampNeg))) fun v17 =>
      self v17 (x7 + 1) h13
      else none)
def F_X13_countTorn_9 (x1 : Int32) (x2 : Int32) (k170 : Hp → Option (Int64 × Hp)) (self : Int32 → Hp → Option (Int64 × Hp)) (x3 : Int32) (h : Hp) : Option (Int64 × Hp) :=
  if 5 ≤ x3 then
    k170 h
  else
    if x2 = 0 then
      if inb (5 + x3) 713 = true then
      lt ((h.1 157 ((5 + x3).toNatClampNeg)).toInt64) fun v23 =>
      itr3 (F_X13_countTorn_36 x1 x2 x3 (fun v25 h24 =>
        itr3 (F_X13_countTorn_98 x1 x2 x3 v25 (fun v27 h26 =>
          if inb ((5 * x2) + x3) 60 = true then
          lt (sL h26 181 (((5 * x2) + x3).toNatClampNeg) (v25 * (v27.toInt64))) fun h29 =>
          self (x3 + 1) h29
          else none)) N0 0 0 h24)) N0 v23 0 h
      else none
    else
      itr3 (F_X13_countTorn_36 x1 x2 x3 (fun v11 h10 =>
        itr3 (F_X13_countTorn_98 x1 x2 x3 v11 (fun v19 h18 =>
          if inb ((5 * x2) + x3) 60 = true then
          lt (sL h18 181 (((5 * x2) + x3).toNatClampNeg) (v11 * (v19.toInt64))) fun h21 =>
          self (x3 + 1) h21
          else none)) N0 0 0 h10)) N0 0 0 h
def F_X13_countTorn_2 (x1 : Int32) (k176 : Hp → Option (Int64 × Hp)) (self : Int32 → Hp → Option (Int64 × Hp)) (x2 : Int32) (h : Hp) : Option (Int64 × Hp) :=
  if x1 ≤ x2 then
    k176 h
  else
    itr2 (F_X13_countTorn_9 x1 x2 (fun h30 =>
      self (x2 + 1) h30)) N0 0 h
def F_X13_countTorn_181 (x1 : Int32) (k227 : Int64 → Hp → Option (Int64 × Hp)) (self : Int64 → Int32 → Hp → Option (Int64 × Hp)) (x2 : Int64) (x4 : Int32) (h : Hp) : Option (Int64 × Hp) :=
  if 5 ≤ x4 then
    k227 x2 h
  else
    if inb (10 + x4) 713 = true then
    (if (h.1 157 ((10 + x4).toNatClampNeg)) = 1 then
      if inb ((5 * (x1 - 1)) + x4) 60 = true then
      lt (x2 + (h.2.1 181 (((5 * (x1 - 1)) + x4).toNatClampNeg))) fun v36 =>
      self v36 (x4 + 1) h
      else none
    else
      self (x2 + 0) (x4 + 1) h)
    else none
def f_X13_countTorn (x1 : Int32) (h : Hp) : Option (Int64 × Hp) :=
  itr2 (F_X13_countTorn_2 x1 (fun h31 =>
    itr3 (F_X13_countTorn_181 x1 (fun v38 h37 =>
      some (v38, h37))) N0 0 0 h31)) N0 0 h
def F_X13_meantTorn_19 (x1 : Int32) (x2 : Int64) (x4 : Int32) (k59 : Int64 → Hp → Option (Int32 × Hp)) (self : Int64 → Int32 → Hp → Option (Int32 × Hp)) (x5 : Int64) (x7 : Int32) (h : Hp) : Option (Int32 × Hp) :=
  if (h.1 157 ((2 : Int32).toNatClampNeg)) ≤ x7 then
    k59 x5 h
  else
    bnd (f_X13_mayBe x4 x7 h) fun v4 h3 =>
    (if v4 = 0 then
      self x5 (x7 + 1) h3
    else
      bnd (f_X13_comes x2 x7 h3) fun v7 h6 =>
      lt (x5 ||| v7) fun v8 =>
      self v8 (x7 + 1) h6)
def F_X13_meantTorn_7 (x1 : Int32) (k68 : Int64 → Hp → Option (Int32 × Hp)) (self : Int64 → Int32 → Hp → Option (Int32 × Hp)) (x2 : Int64) (x4 : Int32) (h : Hp) : Option (Int32 × Hp) :=
  if x1 ≤ x4 then
    k68 x2 h
  else
    itr3 (F_X13_meantTorn_19 x1 x2 x4 (fun v10 h9 =>
      self v10 (x4 + 1) h9)) N0 0 0 h
def f_X13_meantTorn (x1 : Int32) (h : Hp) : Option (Int32 × Hp) :=
  itr3 (F_X13_meantTorn_7 x1 (fun v12 h11 =>
    bnd (f_X13_ends v12 h11) fun v14 h13 =>
    some (v14, h13))) N0 (-1) 0 h
def B_X13_bestFrom_112 (x1 : Int32) (x2 : Int32) (x5 : Int32) (k136 : Int64 → Hp → Option (Int64 × Hp)) (self : Int64 → Int32 → Hp → Option (Int64 × Hp)) (x3 : Int64) (x6 : Int32) (t0 : Int32) (t1 : Int64) (h : Hp) : Option (Int64 × Hp) :=
  lt (t1 * (t0.toInt64)) fun v13 =>
  (if (lg_cmp v13 x3) ≤ 0 then
    self x3 (x6 + 1) h
  else
    self v13 (x6 + 1) h)
def F_X13_bestFrom_32 (x1 : Int32) (x2 : Int32) (x5 : Int32) (k136 : Int64 → Hp → Option (Int64 × Hp)) (self : Int64 → Int32 → Hp → Option (Int64 × Hp)) (x3 : Int64) (x6 : Int32) (h : Hp) : Option (Int64 × Hp) :=
  if 5 ≤ x6 then
    k136 x3 h
  else
    if inb ((72 + (5 * x5)) + x6) 713 = true then
    (if (h.1 157 (((72 + (5 * x5)) + x6).toNatClampNeg)) = 0 then
      self x3 (x6 + 1) h
    else
      if inb ((15 + (5 * x2)) + x6) 713 = true then
      (if (h.1 157 (((15 + (5 * x2)) + x6).toNatClampNeg)) = 0 then
        self x3 (x6 + 1) h
      else
        if inb ((5 * (x1 + 1)) + x6) 65 = true then
        if inb x1 12 = true then
        (if 0 ≤ (h.1 178 (x1.toNatClampNeg)) then
          B_X13_bestFrom_112 x1 x2 x5 k136 self x3 x6 1 (h.2.1 182 (((5 * (x1 + 1)) + x6).toNatClampNeg)) h
        else
          if inb (48 + x5) 713 = true then
          B_X13_bestFrom_112 x1 x2 x5 k136 self x3 x6 (h.1 157 ((48 + x5).toNatClampNeg)) (h.2.1 182 (((5 * (x1 + 1)) + x6).toNatClampNeg)) h
          else none)
        else none
        else none)
      else none)
    else none
def F_X13_bestFrom_5 (x1 : Int32) (x2 : Int32) (k142 : Int64 → Hp → Option (Int64 × Hp)) (self : Int64 → Int32 → Hp → Option (Int64 × Hp)) (x3 : Int64) (x5 : Int32) (h : Hp) : Option (Int64 × Hp) :=
  if (h.1 157 ((2 : Int32).toNatClampNeg)) ≤ x5 then
    k142 x3 h
  else
    bnd (f_X13_mayBe x1 x5 h) fun v3 h2 =>
    (if v3 = 0 then
      self x3 (x5 + 1) h2
    else
      itr3 (F_X13_bestFrom_32 x1 x2 x5 (fun v17 h16 =>
        self v17 (x5 + 1) h16)) N0 x3 0 h2)
def f_X13_bestFrom (x1 : Int32) (x2 : Int32) (h : Hp) : Option (Int64 × Hp) :=
  itr3 (F_X13_bestFrom_5 x1 x2 (fun v19 h18 =>
    some (v19, h18))) N0 0 0 h
def F_X13_comesFrom_25 (x1 : Int32) (x3 : Int32) (k58 : Hp → Option (Int32 × Hp)) (k66 : Hp → Option (Int32 × Hp)) (self : Int32 → Hp → Option (Int32 × Hp)) (x4 : Int32) (h : Hp) : Option (Int32 × Hp) :=
  if 5 ≤ x4 then
    k66 h
  else
    bnd (f_X13_has x1 x4 h) fun v4 h3 =>
    (if v4 = 0 then
      self (x4 + 1) h3
    else
      if inb ((15 + (5 * x4)) + x3) 713 = true then
      (if (h3.1 157 (((15 + (5 * x4)) + x3).toNatClampNeg)) = 1 then
        k58 h3
      else
        self (x4 + 1) h3)
      else none)
def f_X13_comesFrom (x1 : Int32) (x2 : Int32) (x3 : Int32) (h : Hp) : Option (Int32 × Hp) :=
  if x2 = 0 then
    if inb (5 + x3) 713 = true then
    (if (h.1 157 ((5 + x3).toNatClampNeg)) = 1 then
      some (1, h)
    else
      some (0, h))
    else none
  else
    itr2 (F_X13_comesFrom_25 x1 x3 (fun h8 =>
      some (1, h8)) (fun h9 =>
      some (0, h9))) N0 0 h
def F_X13_likely_2 (x1 : Int32) (k33 : Hp → Option Hp) (self : Int32 → Hp → Option Hp) (x2 : Int32) (h : Hp) : Option Hp :=
  if 5 ≤ x2 then
    k33 h
  else
    if inb (10 + x2) 713 = true then
    if inb ((5 * x1) + x2) 65 = true then
    lt (sL h 182 (((5 * x1) + x2).toNatClampNeg) ((h.1 157 ((10 + x2).toNatClampNeg)).toInt64)) fun h4 =>
    self (x2 + 1) h4
    else none
    else none
def F_X13_likely_43 (x1 : Int32) (x2 : Int32) (k70 : Hp → Option Hp) (self : Int32 → Hp → Option Hp) (x3 : Int32) (h : Hp) : Option Hp :=
  if 5 ≤ x3 then
    k70 h
  else
    bnd (f_X13_bestFrom x2 x3 h) fun v9 h8 =>
    if inb ((5 * x2) + x3) 65 = true then
    lt (sL h8 182 (((5 * x2) + x3).toNatClampNeg) v9) fun h11 =>
    self (x3 + 1) h11
    else none
def F_X13_likely_37 (x1 : Int32) (k76 : Hp → Option Hp) (self : Int32 → Hp → Option Hp) (x2 : Int32) (h : Hp) : Option Hp :=
  if x2 ≤ 0 then
    k76 h
  else
    itr2 (F_X13_likely_43 x1 x2 (fun h12 =>
      self (x2 + (-1)) h12)) N0 0 h
def F_X13_likely_140 (x1 : Int32) (x2 : Int32) (x3 : Int64) (x5 : Int32) (x6 : Int64) (x8 : Int32) (x9 : Int32) (x10 : Int32) (k235 : Int64 → Int32 → Hp → Option Hp) (self : Int64 → Int32 → Int32 → Hp → Option Hp) (x11 : Int64) (x13 : Int32) (x14 : Int32) (h : Hp) : Option Hp :=
  if 5 ≤ x14 then
    k235 x11 x13 h
  else
    if inb ((72 + (5 * x10)) + x14) 713 = true then
    (if (h.1 157 (((72 + (5 * x10)) + x14).toNatClampNeg)) = 0 then
      self x11 x13 (x14 + 1) h
    else
      bnd (f_X13_comesFrom x2 x5 x14 h) fun v24 h23 =>
      (if v24 = 0 then
        self x11 x13 (x14 + 1) h23
      else
        lt (x13 ||| (jshl 1 x14)) fun v26 =>
        if inb ((5 * (x5 + 1)) + x14) 65 = true then
        (if (lg_cmp (h23.2.1 182 (((5 * (x5 + 1)) + x14).toNatClampNeg)) x11) ≤ 0 then
          self x11 v26 (x14 + 1) h23
        else
          if inb ((5 * (x5 + 1)) + x14) 65 = true then
          lt (h23.2.1 182 (((5 * (x5 + 1)) + x14).toNatClampNeg)) fun v30 =>
          self v30 v26 (x14 + 1) h23
          else none)
        else none))
    else none
def B_X13_likely_262 (x1 : Int32) (x2 : Int32) (x3 : Int64) (x5 : Int32) (k294 : Int64 → Int32 → Int32 → Hp → Option Hp) (self : Int64 → Int32 → Int32 → Int32 → Hp → Option Hp) (x6 : Int64) (x8 : Int32) (x9 : Int32) (x10 : Int32) (x13 : Int32) (t0 : Int64) (t1 : Int64) (h : Hp) : Option Hp :=
  lt (t1 * t0) fun v36 =>
  (if 0 < (lg_cmp v36 x6) then
    self v36 x10 x13 (x10 + 1) h
  else
    self x6 x8 x9 (x10 + 1) h)
def F_X13_likely_106 (x1 : Int32) (x2 : Int32) (x3 : Int64) (x5 : Int32) (k294 : Int64 → Int32 → Int32 → Hp → Option Hp) (self : Int64 → Int32 → Int32 → Int32 → Hp → Option Hp) (x6 : Int64) (x8 : Int32) (x9 : Int32) (x10 : Int32) (h : Hp) : Option Hp :=
  if (h.1 157 ((2 : Int32).toNatClampNeg)) ≤ x10 then
    k294 x6 x8 x9 h
  else
    bnd (f_X13_mayBe x5 x10 h) fun v18 h17 =>
    (if v18 = 0 then
      self x6 x8 x9 (x10 + 1) h17
    else
      itr4 (F_X13_likely_140 x1 x2 x3 x5 x6 x8 x9 x10 (fun v32 v33 h31 =>
        if inb x5 12 = true then
        (if 0 ≤ (h31.1 178 (x5.toNatClampNeg)) then
          B_X13_likely_262 x1 x2 x3 x5 k294 self x6 x8 x9 x10 v33 1 v32 h31
        else
          if inb (48 + x10) 713 = true then
          B_X13_likely_262 x1 x2 x3 x5 k294 self x6 x8 x9 x10 v33 ((h31.1 157 ((48 + x10).toNatClampNeg)).toInt64) v32 h31
          else none)
        else none)) N0 0 0 0 h17)
def B_X13_likely_302 (x1 : Int32) (k307 : Hp → Option Hp) (k331 : Int64 → Hp → Option Hp) (self : Int32 → Int64 → Int32 → Hp → Option Hp) (x3 : Int64) (x5 : Int32) (x8 : Int32) (x9 : Int32) (h : Hp) : Option Hp :=
  if 0 ≤ x8 then
    if inb x5 12 = true then
    lt (sI h 180 (x5.toNatClampNeg) x8) fun h46 =>
    self x9 x3 (x5 + 1) h46
    else none
  else
    k307 h
def F_X13_likely_88 (x1 : Int32) (k307 : Hp → Option Hp) (k331 : Int64 → Hp → Option Hp) (self : Int32 → Int64 → Int32 → Hp → Option Hp) (x2 : Int32) (x3 : Int64) (x5 : Int32) (h : Hp) : Option Hp :=
  if x1 ≤ x5 then
    k331 x3 h
  else
    itr5 (F_X13_likely_106 x1 x2 x3 x5 (fun v40 v41 v42 h39 =>
      if x5 = 0 then
        B_X13_likely_302 x1 k307 k331 self v40 x5 v41 v42 h39
      else
        B_X13_likely_302 x1 k307 k331 self x3 x5 v41 v42 h39)) N0 0 (-1) 0 0 h
def f_X13_likely (x1 : Int32) (h : Hp) : Option Hp :=
  itr2 (F_X13_likely_2 x1 (fun h5 =>
    itr2 (F_X13_likely_37 x1 (fun h13 =>
      lt (sI h13 155 51 0) fun h14 =>
      itr4 (F_X13_likely_88 x1 (fun h47 =>
        lt (sL h47 155 52 0) fun h48 =>
        some h48) (fun v50 h49 =>
        lt (sI h49 155 51 x1) fun h51 =>
        lt (sL h51 155 52 v50) fun h52 =>
        some h52)) N0 0 0 0 h14)) N0 (x1 - 1) h5)) N0 0 h
def F_X13_torn_49 (x1 : Int32) (x2 : Int32) (k98 : Hp → Option (Int64 × Hp)) (k123 : Int32 → Hp → Option (Int64 × Hp)) (self : Int32 → Int32 → Hp → Option (Int64 × Hp)) (x3 : Int32) (x4 : Int32) (h : Hp) : Option (Int64 × Hp) :=
  if x2 ≤ x4 then
    k123 x3 h
  else
    if inb x4 12 = true then
    lt (sI h 178 (x4.toNatClampNeg) (-1)) fun h12 =>
    bnd (f_X13_isStruck x1 (x4 + 1) h12) fun v14 h13 =>
    (if v14 = 0 then
      if (h13.1 155 3) ≤ x3 then
        k98 h13
      else
        bnd (f_X13_octet x3 h13) fun v18 h17 =>
        bnd (f_X13_isSaying v18 h17) fun v20 h19 =>
        (if v20 = 0 then
          k98 h19
        else
          bnd (f_X13_octet x3 h19) fun v23 h22 =>
          if inb x4 12 = true then
          lt (sI h22 178 (x4.toNatClampNeg) v23) fun h25 =>
          self (x3 + 1) (x4 + 1) h25
          else none)
    else
      self x3 (x4 + 1) h13)
    else none
def B_X13_torn_237 (x2 : Int32) (x4 : Int32) (k245 : Hp → Option (Int64 × Hp)) (self : Int32 → Hp → Option (Int64 × Hp)) (x5 : Int32) (t0 : Int32) (t1 : Int32) (t2 : Int32) (h : Hp) : Option (Int64 × Hp) :=
  if inb t2 3 = true then
  lt (sI h 179 (t2.toNatClampNeg) (t1 ||| t0)) fun h46 =>
  self (x5 + 1) h46
  else none
def B_X13_torn_209 (x2 : Int32) (x4 : Int32) (k245 : Hp → Option (Int64 × Hp)) (self : Int32 → Hp → Option (Int64 × Hp)) (x5 : Int32) (t0 : Int32) (t1 : Int32) (t2 : Int32) (h : Hp) : Option (Int64 × Hp) :=
  if inb t2 3 = true then
  lt (sI h 179 (t2.toNatClampNeg) (t1 ||| t0)) fun h41 =>
  bnd (f_X13_isAll x4 x5 0 h41) fun v43 h42 =>
  (if v43 = 0 then
    B_X13_torn_237 x2 x4 k245 self x5 0 (h41.1 179 ((2 : Int32).toNatClampNeg)) 2 h42
  else
    B_X13_torn_237 x2 x4 k245 self x5 (jshl 1 x5) (h41.1 179 ((2 : Int32).toNatClampNeg)) 2 h42)
  else none
def F_X13_torn_167 (x2 : Int32) (x4 : Int32) (k245 : Hp → Option (Int64 × Hp)) (self : Int32 → Hp → Option (Int64 × Hp)) (x5 : Int32) (h : Hp) : Option (Int64 × Hp) :=
  if (h.1 157 ((1 : Int32).toNatClampNeg)) ≤ x5 then
    k245 h
  else
    if x4 = 0 then
      k245 h
    else
      bnd (f_X13_isAll x4 x5 1 h) fun v38 h37 =>
      (if v38 = 0 then
        B_X13_torn_209 x2 x4 k245 self x5 0 (h.1 179 ((1 : Int32).toNatClampNeg)) 1 h37
      else
        B_X13_torn_209 x2 x4 k245 self x5 (jshl 1 x5) (h.1 179 ((1 : Int32).toNatClampNeg)) 1 h37)
def B_X13_torn_245 (x2 : Int32) (h : Hp) : Option (Int64 × Hp) :=
  bnv (f_X13_likely x2 h) fun h48 =>
  lt (sI h48 155 53 1) fun h49 =>
  bnd (f_X13_countTorn x2 h49) fun v51 h50 =>
  some (v51, h50)
def f_X13_torn (x1 : Int32) (x2 : Int32) (h : Hp) : Option (Int64 × Hp) :=
  lt (sI h 155 0 0) fun h1 =>
  bnv (f_X13_taken 940 h1) fun h2 =>
  bnd (f_X13_isIn x1 1 (h2.1 157 ((3 : Int32).toNatClampNeg)) h2) fun v4 h3 =>
  (if v4 = 0 then
    some ((-1), h3)
  else
    bnd (f_X13_isIn x2 1 12 h3) fun v7 h6 =>
    (if v7 = 0 then
      some ((-1), h6)
    else
      bnv (f_X13_settle h6) fun h9 =>
      itr3 (F_X13_torn_49 x1 x2 (fun h26 =>
        some ((-1), h26)) (fun v28 h27 =>
        if v28 = (h27.1 155 3) then
          bnd (f_X13_meantTorn x2 h27) fun v31 h30 =>
          lt (sI h30 179 ((0 : Int32).toNatClampNeg) v31) fun h32 =>
          lt (sI h32 179 ((1 : Int32).toNatClampNeg) 0) fun h33 =>
          lt (sI h33 179 ((2 : Int32).toNatClampNeg) 0) fun h34 =>
          itr2 (F_X13_torn_167 x2 v31 (fun h47 =>
            B_X13_torn_245 x2 h47)) N0 0 h34
        else
          some ((-1), h27))) N0 0 0 h9))
def f_X13_sure (x1 : Int32) (h : Hp) : Option (Int32 × Hp) :=
  lt (sI h 155 0 0) fun h1 =>
  (if (h1.1 155 53) = 0 then
    some ((-1), h1)
  else
    bnd (f_X13_isIn x1 0 2 h1) fun v4 h3 =>
    (if v4 = 0 then
      some ((-1), h3)
    else
      if inb x1 3 = true then
      some (h3.1 179 (x1.toNatClampNeg), h3)
      else none))
def F_X13_likeliest_35 (k61 : Hp → Option (Int64 × Hp)) (self : Int32 → Hp → Option (Int64 × Hp)) (x1 : Int32) (h : Hp) : Option (Int64 × Hp) :=
  if (h.1 155 51) ≤ x1 then
    k61 h
  else
    if inb x1 12 = true then
    if inb x1 24 = true then
    lt (sI h 176 (x1.toNatClampNeg) (h.1 180 (x1.toNatClampNeg))) fun h8 =>
    self (x1 + 1) h8
    else none
    else none
def f_X13_likeliest (h : Hp) : Option (Int64 × Hp) :=
  lt (sI h 155 0 0) fun h1 =>
  (if (h1.1 155 53) = 0 then
    some ((-1), h1)
  else
    if (lg_cmp (h1.2.1 155 52) 0) ≤ 0 then
      some (h1.2.1 155 52, h1)
    else
      lt (sI h1 155 42 (h1.1 155 51)) fun h4 =>
      itr2 (F_X13_likeliest_35 (fun h9 =>
        some (h9.2.1 155 52, h9))) N0 0 h4)
def F_X13_add_38 (x1 : Int32) (k68 : Hp → Option (Int32 × Hp)) (self : Int32 → Hp → Option (Int32 × Hp)) (x2 : Int32) (h : Hp) : Option (Int32 × Hp) :=
  if 25 ≤ x2 then
    k68 h
  else
    if inb (437 + x2) 713 = true then
    if inb (x1 + x2) 713 = true then
    lt (sI h 157 ((x1 + x2).toNatClampNeg) (h.1 157 ((437 + x2).toNatClampNeg))) fun h7 =>
    self (x2 + 1) h7
    else none
    else none
def f_X13_add (h : Hp) : Option (Int32 × Hp) :=
  lt (sI h 155 0 0) fun h1 =>
  (if (h1.1 157 ((462 : Int32).toNatClampNeg)) = 10 then
    some ((-1), h1)
  else
    lt (463 + (25 * (h1.1 157 ((462 : Int32).toNatClampNeg)))) fun v3 =>
    itr2 (F_X13_add_38 v3 (fun h8 =>
      lt (sI h8 157 ((462 : Int32).toNatClampNeg) ((h8.1 157 ((462 : Int32).toNatClampNeg)) + 1)) fun h9 =>
      some ((h9.1 157 ((462 : Int32).toNatClampNeg)) - 1, h9))) N0 0 h1)
def F_X13_take_27 (x1 : Int32) (k64 : Hp → Option (Int32 × Hp)) (self : Int32 → Hp → Option (Int32 × Hp)) (x2 : Int32) (h : Hp) : Option (Int32 × Hp) :=
  if 25 ≤ x2 then
    k64 h
  else
    if inb ((463 + (25 * x1)) + x2) 713 = true then
    if inb (437 + x2) 713 = true then
    lt (sI h 157 ((437 + x2).toNatClampNeg) (h.1 157 (((463 + (25 * x1)) + x2).toNatClampNeg))) fun h8 =>
    self (x2 + 1) h8
    else none
    else none
def f_X13_take (x1 : Int32) (h : Hp) : Option (Int32 × Hp) :=
  lt (sI h 155 0 0) fun h1 =>
  bnd (f_X13_isIn x1 0 ((h1.1 157 ((462 : Int32).toNatClampNeg)) - 1) h1) fun v3 h2 =>
  (if v3 = 0 then
    some ((-1), h2)
  else
    itr2 (F_X13_take_27 x1 (fun h9 =>
      some (h9.1 157 ((437 : Int32).toNatClampNeg), h9))) N0 0 h2)
def F_X13_book_48 (x1 : Int32) (x2 : Int32) (x3 : Int32) (x4 : Int32) (k85 : Hp → Option (Int32 × Hp)) (self : Int32 → Hp → Option (Int32 × Hp)) (x5 : Int32) (h : Hp) : Option (Int32 × Hp) :=
  if inb x4 713 = true then
  (if (h.1 157 (x4.toNatClampNeg)) ≤ x5 then
    k85 h
  else
    if inb ((x4 + 1) + x5) 713 = true then
    if inb x5 24 = true then
    lt (sI h 161 (x5.toNatClampNeg) (h.1 157 (((x4 + 1) + x5).toNatClampNeg))) fun h12 =>
    self (x5 + 1) h12
    else none
    else none)
  else none
def B_X13_book_129 (x1 : Int32) (x3 : Int32) (x4 : Int32) (x5 : Int32) (k179 : Int32 → Hp → Option (Int32 × Hp)) (self : Int32 → Int32 → Hp → Option (Int32 × Hp)) (x2 : Int32) (x6 : Int32) (h : Hp) : Option (Int32 × Hp) :=
  if inb x4 713 = true then
  bnv (f_X13_leave 161 (h.1 157 (x4.toNatClampNeg)) x6 h) fun h20 =>
  bnd (f_X13_meant 162 (h20.1 155 27) h20) fun v22 h21 =>
  (if v22 = x5 then
    lt (x2 ||| 0) fun v24 =>
    self v24 (x6 + 1) h21
  else
    lt (x2 ||| (jshl 1 x3)) fun v25 =>
    self v25 (x6 + 1) h21)
  else none
def F_X13_book_105 (x1 : Int32) (x3 : Int32) (x4 : Int32) (x5 : Int32) (k179 : Int32 → Hp → Option (Int32 × Hp)) (self : Int32 → Int32 → Hp → Option (Int32 × Hp)) (x2 : Int32) (x6 : Int32) (h : Hp) : Option (Int32 × Hp) :=
  if (h.1 157 ((3 : Int32).toNatClampNeg)) < x6 then
    k179 x2 h
  else
    if x1 ≤ 0 then
      B_X13_book_129 x1 x3 x4 x5 k179 self x2 x6 h
    else
      if x6 = x1 then
        B_X13_book_129 x1 x3 x4 x5 k179 self x2 x6 h
      else
        self x2 (x6 + 1) h
def F_X13_book_23 (x1 : Int32) (k185 : Int32 → Hp → Option (Int32 × Hp)) (self : Int32 → Int32 → Hp → Option (Int32 × Hp)) (x2 : Int32) (x3 : Int32) (h : Hp) : Option (Int32 × Hp) :=
  if (h.1 157 ((462 : Int32).toNatClampNeg)) ≤ x3 then
    k185 x2 h
  else
    lt (463 + (25 * x3)) fun v7 =>
    itr2 (F_X13_book_48 x1 x2 x3 v7 (fun h13 =>
      if inb v7 713 = true then
      bnd (f_X13_meant 161 (h13.1 157 (v7.toNatClampNeg)) h13) fun v16 h15 =>
      itr3 (F_X13_book_105 x1 x3 v7 v16 (fun v28 h27 =>
        self v28 (x3 + 1) h27)) N0 x2 1 h15
      else none)) N0 0 h
def f_X13_book (x1 : Int32) (h : Hp) : Option (Int32 × Hp) :=
  lt (sI h 155 0 0) fun h1 =>
  bnd (f_X13_isBeginning x1 h1) fun v3 h2 =>
  (if v3 = 0 then
    some ((-1), h2)
  else
    bnv (f_X13_settle h2) fun h5 =>
    itr3 (F_X13_book_23 x1 (fun v30 h29 =>
      some (v30, h29))) N0 0 0 h5)
def F_X13_image_18 (x1 : Int32) (k49 : Hp → Option (Int32 × Hp)) (self : Int32 → Hp → Option (Int32 × Hp)) (x2 : Int32) (h : Hp) : Option (Int32 × Hp) :=
  if 713 ≤ x2 then
    k49 h
  else
    if inb x2 713 = true then
    if inb ((713 * x1) + x2) 1426 = true then
    lt (sI h 183 (((713 * x1) + x2).toNatClampNeg) (h.1 157 (x2.toNatClampNeg))) fun h8 =>
    self (x2 + 1) h8
    else none
    else none
def F_X13_image_51 (x1 : Int32) (k80 : Hp → Option (Int32 × Hp)) (self : Int32 → Hp → Option (Int32 × Hp)) (x2 : Int32) (h : Hp) : Option (Int32 × Hp) :=
  if 16 ≤ x2 then
    k80 h
  else
    if inb x2 32 = true then
    if inb ((16 * x1) + x2) 32 = true then
    lt (sL h 184 (((16 * x1) + x2).toNatClampNeg) (h.2.1 159 (x2.toNatClampNeg))) fun h13 =>
    self (x2 + 1) h13
    else none
    else none
def f_X13_image (x1 : Int32) (h : Hp) : Option (Int32 × Hp) :=
  lt (sI h 155 0 0) fun h1 =>
  bnd (f_X13_isIn x1 0 1 h1) fun v3 h2 =>
  (if v3 = 0 then
    some (0, h2)
  else
    itr2 (F_X13_image_18 x1 (fun h9 =>
      itr2 (F_X13_image_51 x1 (fun h14 =>
        if inb x1 2 = true then
        lt (sI h14 185 (x1.toNatClampNeg) (vp_nar .boolean 1)) fun h16 =>
        some (1, h16)
        else none)) N0 0 h9)) N0 0 h2)
def F_X13_restore_27 (x1 : Int32) (k58 : Hp → Option (Int32 × Hp)) (self : Int32 → Hp → Option (Int32 × Hp)) (x2 : Int32) (h : Hp) : Option (Int32 × Hp) :=
  if 713 ≤ x2 then
    k58 h
  else
    if inb ((713 * x1) + x2) 1426 = true then
    if inb x2 713 = true then
    lt (sI h 157 (x2.toNatClampNeg) (h.1 183 (((713 * x1) + x2).toNatClampNeg))) fun h10 =>
    self (x2 + 1) h10
    else none
    else none
def F_X13_restore_60 (x1 : Int32) (k89 : Hp → Option (Int32 × Hp)) (self : Int32 → Hp → Option (Int32 × Hp)) (x2 : Int32) (h : Hp) : Option (Int32 × Hp) :=
  if 16 ≤ x2 then
    k89 h
  else
    if inb ((16 * x1) + x2) 32 = true then
    if inb x2 32 = true then
    lt (sL h 159 (x2.toNatClampNeg) (h.2.1 184 (((16 * x1) + x2).toNatClampNeg))) fun h15 =>
    self (x2 + 1) h15
    else none
    else none
def f_X13_restore (x1 : Int32) (h : Hp) : Option (Int32 × Hp) :=
  lt (sI h 155 0 0) fun h1 =>
  bnd (f_X13_isIn x1 0 1 h1) fun v3 h2 =>
  (if v3 = 0 then
    some (0, h2)
  else
    if inb x1 2 = true then
    (if (h2.1 185 (x1.toNatClampNeg)) = 0 then
      some (0, h2)
    else
      itr2 (F_X13_restore_27 x1 (fun h11 =>
        itr2 (F_X13_restore_60 x1 (fun h16 =>
          lt (sI h16 155 31 1) fun h17 =>
          some (1, h17))) N0 0 h11)) N0 0 h2)
    else none)
def f_X13_count_ (x1 : Int32) (h : Hp) : Option (Int32 × Hp) :=
  lt (sI h 155 0 0) fun h1 =>
  (if x1 = 0 then
    some (h1.1 157 ((0 : Int32).toNatClampNeg), h1)
  else
    if x1 = 1 then
      some (h1.1 157 ((1 : Int32).toNatClampNeg), h1)
    else
      if x1 = 2 then
        some (h1.1 157 ((2 : Int32).toNatClampNeg), h1)
      else
        if x1 = 3 then
          some (h1.1 157 ((3 : Int32).toNatClampNeg), h1)
        else
          if x1 = 4 then
            some (h1.1 157 ((4 : Int32).toNatClampNeg), h1)
          else
            if x1 = 5 then
              some (h1.1 157 ((437 : Int32).toNatClampNeg), h1)
            else
              if x1 = 6 then
                some (h1.1 157 ((462 : Int32).toNatClampNeg), h1)
              else
                if x1 = 7 then
                  some (h1.1 155 2, h1)
                else
                  some ((-1), h1))
