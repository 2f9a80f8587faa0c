theorem ca_X12_inLeastNumbers : Cal yX12_inLeastNumbers cX12_inLeastNumbers 4 (some .int) 3 := ⟨in_6 40 rfl rfl, in_1 1 rfl rfl, by decide +kernel, by decide⟩
theorem cz_X12_inLeastNumbers : Cond.static yX12_inLeastNumbers ∈ tbl := in_6 39 rfl rfl
theorem fl_12_109 : FL "StruckWords" 109 8 8 (2, 5) := ⟨RX10, TX10, 15, rfl, iX10, by decide, in_1 198 rfl rfl, rfl⟩
theorem fl_12_113 : FL "StruckWords" 113 8 9 (2, 6) := ⟨RX10, TX10, 15, rfl, iX10, by decide, in_1 201 rfl rfl, rfl⟩
theorem fl_12_116 : FL "StruckWords" 116 8 10 (2, 7) := ⟨RX10, TX10, 15, rfl, iX10, by decide, in_1 205 rfl rfl, rfl⟩
theorem fl_12_119 : FL "StruckWords" 119 8 11 (0, 0) := ⟨RX10, TX10, 15, rfl, iX10, by decide, in_1 209 rfl rfl, rfl⟩
theorem fl_12_122 : FL "StruckWords" 122 8 12 (2, 8) := ⟨RX10, TX10, 15, rfl, iX10, by decide, in_1 213 rfl rfl, rfl⟩
theorem fl_12_235 : FL "StruckWords" 235 8 5 (2, 3) := ⟨RX10, TX10, 15, rfl, iX10, by decide, in_1 190 rfl rfl, rfl⟩
theorem ml_12_238 : Cond.methodLink "StruckWords" 238 yX12_inLeastNumbers ∈ tbl := in_6 38 rfl rfl
def B_X12_word_25 (h : Hp) : Option (Int32 × Hp) :=
  none
def f_X12_word (x1 : Int32) (x2 : Int32) (h : Hp) : Option (Int32 × Hp) :=
  bnd (f_X10_hasSaying 7 x1 h) fun v2 h1 =>
  (if v2 = 0 then
    B_X12_word_25 h1
  else
    if x2 < 0 then
      B_X12_word_25 h1
    else
      if x2 ≤ 4 then
        if x2 = 0 then
          if inb x1 8 = true then
          some (h1.1 12 (x1.toNatClampNeg), h1)
          else none
        else
          if x2 = 1 then
            if inb x1 8 = true then
            some (h1.1 13 (x1.toNatClampNeg), h1)
            else none
          else
            if x2 = 2 then
              if inb x1 8 = true then
              some (h1.1 14 (x1.toNatClampNeg), h1)
              else none
            else
              if x2 = 3 then
                some ((jshr (h1.1 7 11) x1) &&& 1, h1)
              else
                if inb x1 8 = true then
                bnd (f_J6_bitCount_0f7a4 (h1.1 15 (x1.toNatClampNeg)) h1) fun v15 h14 =>
                some (v15, h14)
                else none
      else
        B_X12_word_25 h1)
def B_X12_known_16 (h : Hp) : Option (Int32 × Hp) :=
  none
def F_X12_known_34 (x1 : Int32) (x2 : Int32) (k121 : Int32 → Int32 → Hp → Option (Int32 × Hp)) (self : Int32 → Int32 → Int32 → Hp → Option (Int32 × Hp)) (x3 : Int32) (x4 : Int32) (x5 : Int32) (h : Hp) : Option (Int32 × Hp) :=
  if (h.1 9 0) < x5 then
    k121 x3 x4 h
  else
    if inb x5 6 = true then
    lt (x4 + (h.1 10 (x5.toNatClampNeg))) fun v8 =>
    bnd (f_X3_meansBy 7 18 x5 h) fun v10 h9 =>
    (if v10 = (jshl 1 x1) then
      if inb x5 6 = true then
      lt (x3 + (h9.1 10 (x5.toNatClampNeg))) fun v13 =>
      self v13 v8 (x5 + 1) h9
      else none
    else
      self x3 v8 (x5 + 1) h9)
    else none
def B_X12_known_138 (x3 : Int32) (x4 : Int32) (t0 : Int32) (h : Hp) : Option (Int32 × Hp) :=
  bnd (f_X12_inLeastNumbers t0 x3 x4 h) fun v20 h19 =>
  some (v20, h19)
def f_X12_known (x1 : Int32) (x2 : Int32) (h : Hp) : Option (Int32 × Hp) :=
  bnd (f_X12_isMeaning x1 h) fun v2 h1 =>
  (if v2 = 0 then
    B_X12_known_16 h1
  else
    if x2 < 0 then
      B_X12_known_16 h1
    else
      if x2 ≤ 1 then
        itr4 (F_X12_known_34 x1 x2 (fun v15 v16 h14 =>
          if v16 = 0 then
            some (x2, h14)
          else
            if x2 = 0 then
              B_X12_known_138 v15 v16 v15 h14
            else
              B_X12_known_138 v15 v16 v16 h14)) N0 0 0 1 h1
      else
        B_X12_known_16 h1)
