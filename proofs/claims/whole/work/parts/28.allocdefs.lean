set_option maxRecDepth 100000 in
def FA_J7_fill_d0a16_6 (x0 : Nat) (x1 : Int64) (x4 : Int32) (k22 : Ga → Option Ga) (self : Int32 → Ga → Option Ga) (x3 : Int32) (h : Ga) : Option Ga :=
  if x4 ≤ x3 then
    k22 h
  else
    if aA h 1 x3 x0 = true then
    lt (put4 h (sL h.2.2.2 x0 (x3.toNatClampNeg) x1)) fun h5 =>
    self (x3 + 1) h5
    else none
set_option maxRecDepth 100000 in
def fA_J7_fill_d0a16 (x0 : Nat) (x1 : Int64) (h : Ga) : Option Ga :=
  if lA h 1 x0 = true then
  lt (Int32.ofNat (aln x0)) fun v2 =>
  itr2 (FA_J7_fill_d0a16_6 x0 x1 v2 (fun h6 =>
    if vrOk h6 0 0 = true then
    some h6
    else none)) N0 0 h
  else none
set_option maxRecDepth 100000 in
def FA_J7_fill_53178_5 (x0 : Nat) (x1 : Int32) (x3 : Int32) (k20 : Ga → Option Ga) (self : Int32 → Ga → Option Ga) (x2 : Int32) (h : Ga) : Option Ga :=
  if x3 ≤ x2 then
    k20 h
  else
    if aA h 0 x2 x0 = true then
    lt (put4 h (sI h.2.2.2 x0 (x2.toNatClampNeg) x1)) fun h5 =>
    self (x2 + 1) h5
    else none
set_option maxRecDepth 100000 in
def fA_J7_fill_53178 (x0 : Nat) (x1 : Int32) (h : Ga) : Option Ga :=
  if lA h 0 x0 = true then
  lt (Int32.ofNat (aln x0)) fun v2 =>
  itr2 (FA_J7_fill_53178_5 x0 x1 v2 (fun h6 =>
    if vrOk h6 0 0 = true then
    some h6
    else none)) N0 0 h
  else none
set_option maxRecDepth 100000 in
def fA_X1_tell (x0 : Nat) (x1 : Int32) (x2 : Int32) (h : Ga) : Option Ga :=
  if oA h 0 x0 = true then
  lt (put4 h (sI h.2.2.2 x0 0 x1)) fun h2 =>
  if oA h2 0 x0 = true then
  lt (put4 h2 (sI h2.2.2.2 x0 1 x2)) fun h4 =>
  if vrOk h4 0 0 = true then
  some h4
  else none
  else none
  else none
set_option maxRecDepth 100000 in
def fA_X1_init (x0 : Nat) (h : Ga) : Option Ga :=
  if decide (¬ x0 = 0) = true then
  if oA h 0 x0 = true then
  lt (put4 h (sI h.2.2.2 x0 0 3)) fun h3 =>
  if oA h3 0 x0 = true then
  lt (put4 h3 (sI h3.2.2.2 x0 1 1)) fun h5 =>
  if vrOk h5 0 0 = true then
  some h5
  else none
  else none
  else none
  else none
set_option maxRecDepth 100000 in
def fA_X7_init (x0 : Nat) (x1 : Int32) (h : Ga) : Option Ga :=
  if decide (¬ x0 = 0) = true then
  if vrOk h 1 (x1.toNatClampNeg) = true then
  if naOk h 0 (jmax x1 0) 1 (x1.toNatClampNeg) = true then
  lt (h.1 + 1) fun r4 =>
  lt (((h.1 + 1, h.2.1, h.2.2.1 + (jmax x1 0).toNatClampNeg, nw h.2.2.2 (h.1 + 1)) : Ga)) fun h5 =>
  if oA h5 5 x0 = true then
  lt (put4 h5 (sR h5.2.2.2 x0 0 r4)) fun h7 =>
  if vrOk h7 1 (x1.toNatClampNeg) = true then
  some h7
  else none
  else none
  else none
  else none
  else none
set_option maxRecDepth 100000 in
def fA_X9_init (x0 : Nat) (h : Ga) : Option Ga :=
  if decide (¬ x0 = 0) = true then
  if vrOk h 0 0 = true then
  some h
  else none
  else none
set_option maxRecDepth 100000 in
def fA_X6_init (x0 : Nat) (h : Ga) : Option Ga :=
  if decide (¬ x0 = 0) = true then
  if nwOk h 7 7 1 7 = true then
  lt (h.1 + 1) fun r3 =>
  lt (((h.1 + 1, h.2.1, h.2.2.1 + 7, nw h.2.2.2 (h.1 + 1)) : Ga)) fun h4 =>
  if decide (¬ r3 = 0) = true then
  bna (fA_X9_init r3) h4 0 0 1 7 fun h5 =>
  if oA h5 4 x0 = true then
  lt (put4 h5 (sR h5.2.2.2 x0 0 r3)) fun h11 =>
  if vrOk h11 1 7 = true then
  some h11
  else none
  else none
  else none
  else none
  else none
set_option maxRecDepth 100000 in
def FA_X10_clear_60 (x0 : Nat) (k85 : Ga → Option Ga) (self : Int32 → Ga → Option Ga) (x1 : Int32) (h : Ga) : Option Ga :=
  if oA h 8 x0 = true then
  lt (h.2.2.2.2.2 x0 13) fun r37 =>
  if lA h 0 r37 = true then
  (if (Int32.ofNat (aln r37)) ≤ x1 then
    k85 h
  else
    if oA h 8 x0 = true then
    lt (h.2.2.2.2.2 x0 13) fun r41 =>
    if aA h 0 x1 r41 = true then
    lt (put4 h (sI h.2.2.2 r41 (x1.toNatClampNeg) (jrem x1 8))) fun h43 =>
    self (x1 + 1) h43
    else none
    else none)
  else none
  else none
set_option maxRecDepth 100000 in
def fA_X10_clear (x0 : Nat) (h : Ga) : Option Ga :=
  if oA h 8 x0 = true then
  lt (put4 h (sI h.2.2.2 x0 0 0)) fun h2 =>
  if oA h2 8 x0 = true then
  lt (put4 h2 (sI h2.2.2.2 x0 1 0)) fun h4 =>
  if oA h4 8 x0 = true then
  lt (put4 h4 (sI h4.2.2.2 x0 2 0)) fun h6 =>
  if oA h6 8 x0 = true then
  lt (h6.2.2.2.2.2 x0 4) fun r8 =>
  if oA h6 0 r8 = true then
  bna (fA_X1_tell r8 3 1) h6 0 0 0 0 fun h9 =>
  if oA h9 8 x0 = true then
  lt (h9.2.2.2.2.2 x0 5) fun r15 =>
  bna (fA_J7_fill_53178 r15 1) h9 0 0 0 0 fun h16 =>
  if oA h16 8 x0 = true then
  lt (h16.2.2.2.2.2 x0 6) fun r21 =>
  bna (fA_J7_fill_d0a16 r21 0) h16 0 0 0 0 fun h22 =>
  if oA h22 8 x0 = true then
  lt (put4 h22 (sL h22.2.2.2 x0 7 0)) fun h27 =>
  if oA h27 8 x0 = true then
  lt (put4 h27 (sI h27.2.2.2 x0 11 0)) fun h29 =>
  if oA h29 8 x0 = true then
  lt (h29.2.2.2.2.2 x0 12) fun r31 =>
  bna (fA_J7_fill_53178 r31 0) h29 0 0 0 0 fun h32 =>
  itr2 (FA_X10_clear_60 x0 (fun h44 =>
    if vrOk h44 0 0 = true then
    some h44
    else none)) N0 0 h32
  else none
  else none
  else none
  else none
  else none
  else none
  else none
  else none
  else none
  else none
set_option maxRecDepth 100000 in
def fA_X10_init (x0 : Nat) (h : Ga) : Option Ga :=
  if decide (¬ x0 = 0) = true then
  if naOk h 0 (16 : Int32) 10 1661 = true then
  lt (h.1 + 1) fun r3 =>
  lt (((h.1 + 1, h.2.1, h.2.2.1 + (16 : Int32).toNatClampNeg, nw h.2.2.2 (h.1 + 1)) : Ga)) fun h4 =>
  if oA h4 8 x0 = true then
  lt (put4 h4 (sR h4.2.2.2 x0 3 r3)) fun h6 =>
  if nwOk h6 0 2 10 1661 = true then
  lt (h6.1 + 1) fun r8 =>
  lt (((h6.1 + 1, h6.2.1, h6.2.2.1 + 2, nw h6.2.2.2 (h6.1 + 1)) : Ga)) fun h9 =>
  if decide (¬ r8 = 0) = true then
  bna (fA_X1_init r8) h9 0 0 10 1661 fun h10 =>
  if oA h10 8 x0 = true then
  lt (put4 h10 (sR h10.2.2.2 x0 4 r8)) fun h16 =>
  if naOk h16 0 (6 : Int32) 10 1661 = true then
  lt (h16.1 + 1) fun r18 =>
  lt (((h16.1 + 1, h16.2.1, h16.2.2.1 + (6 : Int32).toNatClampNeg, nw h16.2.2.2 (h16.1 + 1)) : Ga)) fun h19 =>
  if oA h19 8 x0 = true then
  lt (put4 h19 (sR h19.2.2.2 x0 5 r18)) fun h21 =>
  if naOk h21 1 (5 : Int32) 10 1661 = true then
  lt (h21.1 + 1) fun r23 =>
  lt (((h21.1 + 1, h21.2.1, h21.2.2.1 + (5 : Int32).toNatClampNeg, nw h21.2.2.2 (h21.1 + 1)) : Ga)) fun h24 =>
  if oA h24 8 x0 = true then
  lt (put4 h24 (sR h24.2.2.2 x0 6 r23)) fun h26 =>
  if naOk h26 0 (8 : Int32) 10 1661 = true then
  lt (h26.1 + 1) fun r28 =>
  lt (((h26.1 + 1, h26.2.1, h26.2.2.1 + (8 : Int32).toNatClampNeg, nw h26.2.2.2 (h26.1 + 1)) : Ga)) fun h29 =>
  if oA h29 8 x0 = true then
  lt (put4 h29 (sR h29.2.2.2 x0 8 r28)) fun h31 =>
  if naOk h31 0 (8 : Int32) 10 1661 = true then
  lt (h31.1 + 1) fun r33 =>
  lt (((h31.1 + 1, h31.2.1, h31.2.2.1 + (8 : Int32).toNatClampNeg, nw h31.2.2.2 (h31.1 + 1)) : Ga)) fun h34 =>
  if oA h34 8 x0 = true then
  lt (put4 h34 (sR h34.2.2.2 x0 9 r33)) fun h36 =>
  if naOk h36 0 (8 : Int32) 10 1661 = true then
  lt (h36.1 + 1) fun r38 =>
  lt (((h36.1 + 1, h36.2.1, h36.2.2.1 + (8 : Int32).toNatClampNeg, nw h36.2.2.2 (h36.1 + 1)) : Ga)) fun h39 =>
  if oA h39 8 x0 = true then
  lt (put4 h39 (sR h39.2.2.2 x0 10 r38)) fun h41 =>
  if naOk h41 0 (8 : Int32) 10 1661 = true then
  lt (h41.1 + 1) fun r43 =>
  lt (((h41.1 + 1, h41.2.1, h41.2.2.1 + (8 : Int32).toNatClampNeg, nw h41.2.2.2 (h41.1 + 1)) : Ga)) fun h44 =>
  if oA h44 8 x0 = true then
  lt (put4 h44 (sR h44.2.2.2 x0 12 r43)) fun h46 =>
  if naOk h46 0 (320 : Int32) 10 1661 = true then
  lt (h46.1 + 1) fun r48 =>
  lt (((h46.1 + 1, h46.2.1, h46.2.2.1 + (320 : Int32).toNatClampNeg, nw h46.2.2.2 (h46.1 + 1)) : Ga)) fun h49 =>
  if oA h49 8 x0 = true then
  lt (put4 h49 (sR h49.2.2.2 x0 13 r48)) fun h51 =>
  if naOk h51 0 (1280 : Int32) 10 1661 = true then
  lt (h51.1 + 1) fun r53 =>
  lt (((h51.1 + 1, h51.2.1, h51.2.2.1 + (1280 : Int32).toNatClampNeg, nw h51.2.2.2 (h51.1 + 1)) : Ga)) fun h54 =>
  if oA h54 8 x0 = true then
  lt (put4 h54 (sR h54.2.2.2 x0 14 r53)) fun h56 =>
  if oA h56 8 x0 = true then
  bna (fA_X10_clear x0) h56 0 0 10 1661 fun h57 =>
  if vrOk h57 10 1661 = true then
  some h57
  else none
  else none
  else none
  else none
  else none
  else none
  else none
  else none
  else none
  else none
  else none
  else none
  else none
  else none
  else none
  else none
  else none
  else none
  else none
  else none
  else none
  else none
  else none
  else none
set_option maxRecDepth 100000 in
def FA_X5_init_39 (x0 : Nat) (k66 : Ga → Option Ga) (self : Int32 → Ga → Option Ga) (x1 : Int32) (h : Ga) : Option Ga :=
  if 10 ≤ x1 then
    k66 h
  else
    if oA h 3 x0 = true then
    lt (h.2.2.2.2.2 x0 2) fun r29 =>
    if nwOk h 5 2 34 1972 = true then
    lt (h.1 + 1) fun r31 =>
    lt (((h.1 + 1, h.2.1, h.2.2.1 + 2, nw h.2.2.2 (h.1 + 1)) : Ga)) fun h32 =>
    if decide (¬ r31 = 0) = true then
    bna (fA_X7_init r31 24) h32 1 24 34 1972 fun h33 =>
    if aA h33 4 x1 r29 = true then
    if oA h33 5 r31 = true then
    lt (put4 h33 (sR h33.2.2.2 r29 (x1.toNatClampNeg) r31)) fun h40 =>
    self (x1 + 1) h40
    else none
    else none
    else none
    else none
    else none
set_option maxRecDepth 100000 in
def fA_X5_init (x0 : Nat) (h : Ga) : Option Ga :=
  if decide (¬ x0 = 0) = true then
  if nwOk h 8 15 34 1972 = true then
  lt (h.1 + 1) fun r3 =>
  lt (((h.1 + 1, h.2.1, h.2.2.1 + 15, nw h.2.2.2 (h.1 + 1)) : Ga)) fun h4 =>
  if decide (¬ r3 = 0) = true then
  bna (fA_X10_init r3) h4 10 1661 34 1972 fun h5 =>
  if oA h5 3 x0 = true then
  lt (put4 h5 (sR h5.2.2.2 x0 0 r3)) fun h11 =>
  if nwOk h11 5 2 34 1972 = true then
  lt (h11.1 + 1) fun r13 =>
  lt (((h11.1 + 1, h11.2.1, h11.2.2.1 + 2, nw h11.2.2.2 (h11.1 + 1)) : Ga)) fun h14 =>
  if decide (¬ r13 = 0) = true then
  bna (fA_X7_init r13 24) h14 1 24 34 1972 fun h15 =>
  if oA h15 3 x0 = true then
  lt (put4 h15 (sR h15.2.2.2 x0 1 r13)) fun h21 =>
  if naOk h21 4 (10 : Int32) 34 1972 = true then
  lt (h21.1 + 1) fun r23 =>
  lt (((h21.1 + 1, h21.2.1, h21.2.2.1 + (10 : Int32).toNatClampNeg, nw h21.2.2.2 (h21.1 + 1)) : Ga)) fun h24 =>
  if oA h24 3 x0 = true then
  lt (put4 h24 (sR h24.2.2.2 x0 2 r23)) fun h26 =>
  itr2 (FA_X5_init_39 x0 (fun h41 =>
    if vrOk h41 34 1972 = true then
    some h41
    else none)) N0 0 h26
  else none
  else none
  else none
  else none
  else none
  else none
  else none
  else none
  else none
set_option maxRecDepth 100000 in
def fA_X3_init (x0 : Nat) (h : Ga) : Option Ga :=
  if decide (¬ x0 = 0) = true then
  if nwOk h 5 2 8 375 = true then
  lt (h.1 + 1) fun r3 =>
  lt (((h.1 + 1, h.2.1, h.2.2.1 + 2, nw h.2.2.2 (h.1 + 1)) : Ga)) fun h4 =>
  if decide (¬ r3 = 0) = true then
  bna (fA_X7_init r3 24) h4 1 24 8 375 fun h5 =>
  if oA h5 2 x0 = true then
  lt (put4 h5 (sR h5.2.2.2 x0 0 r3)) fun h11 =>
  if naOk h11 1 (6 : Int32) 8 375 = true then
  lt (h11.1 + 1) fun r13 =>
  lt (((h11.1 + 1, h11.2.1, h11.2.2.1 + (6 : Int32).toNatClampNeg, nw h11.2.2.2 (h11.1 + 1)) : Ga)) fun h14 =>
  if oA h14 2 x0 = true then
  lt (put4 h14 (sR h14.2.2.2 x0 1 r13)) fun h16 =>
  if naOk h16 1 (6 : Int32) 8 375 = true then
  lt (h16.1 + 1) fun r18 =>
  lt (((h16.1 + 1, h16.2.1, h16.2.2.1 + (6 : Int32).toNatClampNeg, nw h16.2.2.2 (h16.1 + 1)) : Ga)) fun h19 =>
  if oA h19 2 x0 = true then
  lt (put4 h19 (sR h19.2.2.2 x0 2 r18)) fun h21 =>
  if naOk h21 0 (24 : Int32) 8 375 = true then
  lt (h21.1 + 1) fun r23 =>
  lt (((h21.1 + 1, h21.2.1, h21.2.2.1 + (24 : Int32).toNatClampNeg, nw h21.2.2.2 (h21.1 + 1)) : Ga)) fun h24 =>
  if oA h24 2 x0 = true then
  lt (put4 h24 (sR h24.2.2.2 x0 3 r23)) fun h26 =>
  if naOk h26 0 (24 : Int32) 8 375 = true then
  lt (h26.1 + 1) fun r28 =>
  lt (((h26.1 + 1, h26.2.1, h26.2.2.1 + (24 : Int32).toNatClampNeg, nw h26.2.2.2 (h26.1 + 1)) : Ga)) fun h29 =>
  if oA h29 2 x0 = true then
  lt (put4 h29 (sR h29.2.2.2 x0 4 r28)) fun h31 =>
  if naOk h31 0 (144 : Int32) 8 375 = true then
  lt (h31.1 + 1) fun r33 =>
  lt (((h31.1 + 1, h31.2.1, h31.2.2.1 + (144 : Int32).toNatClampNeg, nw h31.2.2.2 (h31.1 + 1)) : Ga)) fun h34 =>
  if oA h34 2 x0 = true then
  lt (put4 h34 (sR h34.2.2.2 x0 5 r33)) fun h36 =>
  if naOk h36 1 (145 : Int32) 8 375 = true then
  lt (h36.1 + 1) fun r38 =>
  lt (((h36.1 + 1, h36.2.1, h36.2.2.1 + (145 : Int32).toNatClampNeg, nw h36.2.2.2 (h36.1 + 1)) : Ga)) fun h39 =>
  if oA h39 2 x0 = true then
  lt (put4 h39 (sR h39.2.2.2 x0 7 r38)) fun h41 =>
  if vrOk h41 8 375 = true then
  some h41
  else none
  else none
  else none
  else none
  else none
  else none
  else none
  else none
  else none
  else none
  else none
  else none
  else none
  else none
  else none
  else none
  else none
set_option maxRecDepth 100000 in
def fA_X11_init (x0 : Nat) (h : Ga) : Option Ga :=
  if decide (¬ x0 = 0) = true then
  if naOk h 1 (84 : Int32) 6 202 = true then
  lt (h.1 + 1) fun r3 =>
  lt (((h.1 + 1, h.2.1, h.2.2.1 + (84 : Int32).toNatClampNeg, nw h.2.2.2 (h.1 + 1)) : Ga)) fun h4 =>
  if oA h4 9 x0 = true then
  lt (put4 h4 (sR h4.2.2.2 x0 0 r3)) fun h6 =>
  if naOk h6 0 (84 : Int32) 6 202 = true then
  lt (h6.1 + 1) fun r8 =>
  lt (((h6.1 + 1, h6.2.1, h6.2.2.1 + (84 : Int32).toNatClampNeg, nw h6.2.2.2 (h6.1 + 1)) : Ga)) fun h9 =>
  if oA h9 9 x0 = true then
  lt (put4 h9 (sR h9.2.2.2 x0 1 r8)) fun h11 =>
  if naOk h11 0 (13 : Int32) 6 202 = true then
  lt (h11.1 + 1) fun r13 =>
  lt (((h11.1 + 1, h11.2.1, h11.2.2.1 + (13 : Int32).toNatClampNeg, nw h11.2.2.2 (h11.1 + 1)) : Ga)) fun h14 =>
  if oA h14 9 x0 = true then
  lt (put4 h14 (sR h14.2.2.2 x0 2 r13)) fun h16 =>
  if naOk h16 0 (6 : Int32) 6 202 = true then
  lt (h16.1 + 1) fun r18 =>
  lt (((h16.1 + 1, h16.2.1, h16.2.2.1 + (6 : Int32).toNatClampNeg, nw h16.2.2.2 (h16.1 + 1)) : Ga)) fun h19 =>
  if oA h19 9 x0 = true then
  lt (put4 h19 (sR h19.2.2.2 x0 3 r18)) fun h21 =>
  if nwOk h21 5 2 6 202 = true then
  lt (h21.1 + 1) fun r23 =>
  lt (((h21.1 + 1, h21.2.1, h21.2.2.1 + 2, nw h21.2.2.2 (h21.1 + 1)) : Ga)) fun h24 =>
  if decide (¬ r23 = 0) = true then
  bna (fA_X7_init r23 13) h24 1 13 6 202 fun h25 =>
  if oA h25 9 x0 = true then
  lt (put4 h25 (sR h25.2.2.2 x0 4 r23)) fun h31 =>
  if oA h31 9 x0 = true then
  lt (put4 h31 (sI h31.2.2.2 x0 7 (-1))) fun h33 =>
  if oA h33 9 x0 = true then
  lt (put4 h33 (sI h33.2.2.2 x0 8 (-1))) fun h35 =>
  if vrOk h35 6 202 = true then
  some h35
  else none
  else none
  else none
  else none
  else none
  else none
  else none
  else none
  else none
  else none
  else none
  else none
  else none
  else none
  else none
set_option maxRecDepth 100000 in
def fA_X2_init (x0 : Nat) (h : Ga) : Option Ga :=
  if decide (¬ x0 = 0) = true then
  if nwOk h 9 9 10 220 = true then
  lt (h.1 + 1) fun r3 =>
  lt (((h.1 + 1, h.2.1, h.2.2.1 + 9, nw h.2.2.2 (h.1 + 1)) : Ga)) fun h4 =>
  if decide (¬ r3 = 0) = true then
  bna (fA_X11_init r3) h4 6 202 10 220 fun h5 =>
  if oA h5 1 x0 = true then
  lt (put4 h5 (sR h5.2.2.2 x0 0 r3)) fun h11 =>
  if nwOk h11 0 2 10 220 = true then
  lt (h11.1 + 1) fun r13 =>
  lt (((h11.1 + 1, h11.2.1, h11.2.2.1 + 2, nw h11.2.2.2 (h11.1 + 1)) : Ga)) fun h14 =>
  if decide (¬ r13 = 0) = true then
  bna (fA_X1_init r13) h14 0 0 10 220 fun h15 =>
  if oA h15 1 x0 = true then
  lt (put4 h15 (sR h15.2.2.2 x0 1 r13)) fun h21 =>
  if nwOk h21 5 2 10 220 = true then
  lt (h21.1 + 1) fun r23 =>
  lt (((h21.1 + 1, h21.2.1, h21.2.2.1 + 2, nw h21.2.2.2 (h21.1 + 1)) : Ga)) fun h24 =>
  if decide (¬ r23 = 0) = true then
  bna (fA_X7_init r23 5) h24 1 5 10 220 fun h25 =>
  if oA h25 1 x0 = true then
  lt (put4 h25 (sR h25.2.2.2 x0 5 r23)) fun h31 =>
  if vrOk h31 10 220 = true then
  some h31
  else none
  else none
  else none
  else none
  else none
  else none
  else none
  else none
  else none
  else none
  else none
set_option maxRecDepth 100000 in
def fA_X8_init (x0 : Nat) (h : Ga) : Option Ga :=
  if decide (¬ x0 = 0) = true then
  if nwOk h 5 2 6 192 = true then
  lt (h.1 + 1) fun r3 =>
  lt (((h.1 + 1, h.2.1, h.2.2.1 + 2, nw h.2.2.2 (h.1 + 1)) : Ga)) fun h4 =>
  if decide (¬ r3 = 0) = true then
  bna (fA_X7_init r3 12) h4 1 12 6 192 fun h5 =>
  if oA h5 6 x0 = true then
  lt (put4 h5 (sR h5.2.2.2 x0 6 r3)) fun h11 =>
  if naOk h11 0 (12 : Int32) 6 192 = true then
  lt (h11.1 + 1) fun r13 =>
  lt (((h11.1 + 1, h11.2.1, h11.2.2.1 + (12 : Int32).toNatClampNeg, nw h11.2.2.2 (h11.1 + 1)) : Ga)) fun h14 =>
  if oA h14 6 x0 = true then
  lt (put4 h14 (sR h14.2.2.2 x0 8 r13)) fun h16 =>
  if naOk h16 1 (48 : Int32) 6 192 = true then
  lt (h16.1 + 1) fun r18 =>
  lt (((h16.1 + 1, h16.2.1, h16.2.2.1 + (48 : Int32).toNatClampNeg, nw h16.2.2.2 (h16.1 + 1)) : Ga)) fun h19 =>
  if oA h19 6 x0 = true then
  lt (put4 h19 (sR h19.2.2.2 x0 10 r18)) fun h21 =>
  if naOk h21 1 (40 : Int32) 6 192 = true then
  lt (h21.1 + 1) fun r23 =>
  lt (((h21.1 + 1, h21.2.1, h21.2.2.1 + (40 : Int32).toNatClampNeg, nw h21.2.2.2 (h21.1 + 1)) : Ga)) fun h24 =>
  if oA h24 6 x0 = true then
  lt (put4 h24 (sR h24.2.2.2 x0 11 r23)) fun h26 =>
  if naOk h26 1 (78 : Int32) 6 192 = true then
  lt (h26.1 + 1) fun r28 =>
  lt (((h26.1 + 1, h26.2.1, h26.2.2.1 + (78 : Int32).toNatClampNeg, nw h26.2.2.2 (h26.1 + 1)) : Ga)) fun h29 =>
  if oA h29 6 x0 = true then
  lt (put4 h29 (sR h29.2.2.2 x0 12 r28)) fun h31 =>
  if vrOk h31 6 192 = true then
  some h31
  else none
  else none
  else none
  else none
  else none
  else none
  else none
  else none
  else none
  else none
  else none
  else none
  else none
set_option maxRecDepth 100000 in
def fA_X12_init (x0 : Nat) (h : Ga) : Option Ga :=
  if decide (¬ x0 = 0) = true then
  if nwOk h 5 2 153 9418 = true then
  lt (h.1 + 1) fun r3 =>
  lt (((h.1 + 1, h.2.1, h.2.2.1 + 2, nw h.2.2.2 (h.1 + 1)) : Ga)) fun h4 =>
  if decide (¬ r3 = 0) = true then
  bna (fA_X7_init r3 940) h4 1 940 153 9418 fun h5 =>
  if oA h5 10 x0 = true then
  lt (put4 h5 (sR h5.2.2.2 x0 0 r3)) fun h11 =>
  if nwOk h11 4 6 153 9418 = true then
  lt (h11.1 + 1) fun r13 =>
  lt (((h11.1 + 1, h11.2.1, h11.2.2.1 + 6, nw h11.2.2.2 (h11.1 + 1)) : Ga)) fun h14 =>
  if decide (¬ r13 = 0) = true then
  bna (fA_X6_init r13) h14 1 7 153 9418 fun h15 =>
  if oA h15 10 x0 = true then
  lt (put4 h15 (sR h15.2.2.2 x0 1 r13)) fun h21 =>
  if nwOk h21 3 4 153 9418 = true then
  lt (h21.1 + 1) fun r23 =>
  lt (((h21.1 + 1, h21.2.1, h21.2.2.1 + 4, nw h21.2.2.2 (h21.1 + 1)) : Ga)) fun h24 =>
  if decide (¬ r23 = 0) = true then
  bna (fA_X5_init r23) h24 34 1972 153 9418 fun h25 =>
  if oA h25 10 x0 = true then
  lt (put4 h25 (sR h25.2.2.2 x0 2 r23)) fun h31 =>
  if naOk h31 5 (2 : Int32) 153 9418 = true then
  lt (h31.1 + 1) fun r33 =>
  lt (((h31.1 + 1, h31.2.1, h31.2.2.1 + (2 : Int32).toNatClampNeg, nw h31.2.2.2 (h31.1 + 1)) : Ga)) fun h34 =>
  if nwOk h34 3 4 153 9418 = true then
  lt (h34.1 + 1) fun r36 =>
  lt (((h34.1 + 1, h34.2.1, h34.2.2.1 + 4, nw h34.2.2.2 (h34.1 + 1)) : Ga)) fun h37 =>
  if decide (¬ r36 = 0) = true then
  bna (fA_X5_init r36) h37 34 1972 153 9418 fun h38 =>
  if aA h38 5 0 r33 = true then
  if oA h38 3 r36 = true then
  lt (put4 h38 (sR h38.2.2.2 r33 ((0 : Int32).toNatClampNeg) r36)) fun h45 =>
  if nwOk h45 3 4 153 9418 = true then
  lt (h45.1 + 1) fun r47 =>
  lt (((h45.1 + 1, h45.2.1, h45.2.2.1 + 4, nw h45.2.2.2 (h45.1 + 1)) : Ga)) fun h48 =>
  if decide (¬ r47 = 0) = true then
  bna (fA_X5_init r47) h48 34 1972 153 9418 fun h49 =>
  if aA h49 5 1 r33 = true then
  if oA h49 3 r47 = true then
  lt (put4 h49 (sR h49.2.2.2 r33 ((1 : Int32).toNatClampNeg) r47)) fun h56 =>
  if oA h56 10 x0 = true then
  lt (put4 h56 (sR h56.2.2.2 x0 3 r33)) fun h58 =>
  if naOk h58 3 (2 : Int32) 153 9418 = true then
  lt (h58.1 + 1) fun r60 =>
  lt (((h58.1 + 1, h58.2.1, h58.2.2.1 + (2 : Int32).toNatClampNeg, nw h58.2.2.2 (h58.1 + 1)) : Ga)) fun h61 =>
  if oA h61 10 x0 = true then
  lt (put4 h61 (sR h61.2.2.2 x0 4 r60)) fun h63 =>
  if nwOk h63 2 8 153 9418 = true then
  lt (h63.1 + 1) fun r65 =>
  lt (((h63.1 + 1, h63.2.1, h63.2.2.1 + 8, nw h63.2.2.2 (h63.1 + 1)) : Ga)) fun h66 =>
  if decide (¬ r65 = 0) = true then
  bna (fA_X3_init r65) h66 8 375 153 9418 fun h67 =>
  if oA h67 10 x0 = true then
  lt (put4 h67 (sR h67.2.2.2 x0 5 r65)) fun h73 =>
  if nwOk h73 1 6 153 9418 = true then
  lt (h73.1 + 1) fun r75 =>
  lt (((h73.1 + 1, h73.2.1, h73.2.2.1 + 6, nw h73.2.2.2 (h73.1 + 1)) : Ga)) fun h76 =>
  if decide (¬ r75 = 0) = true then
  bna (fA_X2_init r75) h76 10 220 153 9418 fun h77 =>
  if oA h77 10 x0 = true then
  lt (put4 h77 (sR h77.2.2.2 x0 6 r75)) fun h83 =>
  if nwOk h83 6 13 153 9418 = true then
  lt (h83.1 + 1) fun r85 =>
  lt (((h83.1 + 1, h83.2.1, h83.2.2.1 + 13, nw h83.2.2.2 (h83.1 + 1)) : Ga)) fun h86 =>
  if decide (¬ r85 = 0) = true then
  bna (fA_X8_init r85) h86 6 192 153 9418 fun h87 =>
  if oA h87 10 x0 = true then
  lt (put4 h87 (sR h87.2.2.2 x0 7 r85)) fun h93 =>
  if nwOk h93 5 2 153 9418 = true then
  lt (h93.1 + 1) fun r95 =>
  lt (((h93.1 + 1, h93.2.1, h93.2.2.1 + 2, nw h93.2.2.2 (h93.1 + 1)) : Ga)) fun h96 =>
  if decide (¬ r95 = 0) = true then
  bna (fA_X7_init r95 13) h96 1 13 153 9418 fun h97 =>
  if oA h97 10 x0 = true then
  lt (put4 h97 (sR h97.2.2.2 x0 8 r95)) fun h103 =>
  if nwOk h103 8 15 153 9418 = true then
  lt (h103.1 + 1) fun r105 =>
  lt (((h103.1 + 1, h103.2.1, h103.2.2.1 + 15, nw h103.2.2.2 (h103.1 + 1)) : Ga)) fun h106 =>
  if decide (¬ r105 = 0) = true then
  bna (fA_X10_init r105) h106 10 1661 153 9418 fun h107 =>
  if oA h107 10 x0 = true then
  lt (put4 h107 (sR h107.2.2.2 x0 9 r105)) fun h113 =>
  if nwOk h113 5 2 153 9418 = true then
  lt (h113.1 + 1) fun r115 =>
  lt (((h113.1 + 1, h113.2.1, h113.2.2.1 + 2, nw h113.2.2.2 (h113.1 + 1)) : Ga)) fun h116 =>
  if decide (¬ r115 = 0) = true then
  bna (fA_X7_init r115 24) h116 1 24 153 9418 fun h117 =>
  if oA h117 10 x0 = true then
  lt (put4 h117 (sR h117.2.2.2 x0 10 r115)) fun h123 =>
  if vrOk h123 153 9418 = true then
  some h123
  else none
  else none
  else none
  else none
  else none
  else none
  else none
  else none
  else none
  else none
  else none
  else none
  else none
  else none
  else none
  else none
  else none
  else none
  else none
  else none
  else none
  else none
  else none
  else none
  else none
  else none
  else none
  else none
  else none
  else none
  else none
  else none
  else none
  else none
  else none
  else none
  else none
  else none
  else none
  else none
  else none
set_option maxRecDepth 100000 in
def FA_X13_plainTongue_2 (x0 : Nat) (k22 : Ga → Option Ga) (self : Int32 → Ga → Option Ga) (x1 : Int32) (h : Ga) : Option Ga :=
  if 437 ≤ x1 then
    k22 h
  else
    if oA h 11 x0 = true then
    lt (h.2.2.2.2.2 x0 7) fun r3 =>
    if aA h 0 x1 r3 = true then
    lt (put4 h (sI h.2.2.2 r3 (x1.toNatClampNeg) 0)) fun h5 =>
    self (x1 + 1) h5
    else none
    else none
set_option maxRecDepth 100000 in
def FA_X13_plainTongue_38 (x0 : Nat) (k60 : Ga → Option Ga) (self : Int32 → Ga → Option Ga) (x1 : Int32) (h : Ga) : Option Ga :=
  if 5 ≤ x1 then
    k60 h
  else
    if oA h 11 x0 = true then
    lt (h.2.2.2.2.2 x0 7) fun r17 =>
    if aA h 0 (432 + x1) r17 = true then
    lt (put4 h (sI h.2.2.2 r17 ((432 + x1).toNatClampNeg) 1)) fun h19 =>
    self (x1 + 1) h19
    else none
    else none
set_option maxRecDepth 100000 in
def fA_X13_plainTongue (x0 : Nat) (h : Ga) : Option Ga :=
  itr2 (FA_X13_plainTongue_2 x0 (fun h6 =>
    if oA h6 11 x0 = true then
    lt (h6.2.2.2.2.2 x0 7) fun r8 =>
    if aA h6 0 3 r8 = true then
    lt (put4 h6 (sI h6.2.2.2 r8 ((3 : Int32).toNatClampNeg) 3)) fun h10 =>
    if oA h10 11 x0 = true then
    lt (h10.2.2.2.2.2 x0 7) fun r12 =>
    if aA h10 0 4 r12 = true then
    lt (put4 h10 (sI h10.2.2.2 r12 ((4 : Int32).toNatClampNeg) 1)) fun h14 =>
    itr2 (FA_X13_plainTongue_38 x0 (fun h20 =>
      if vrOk h20 0 0 = true then
      some h20
      else none)) N0 0 h14
    else none
    else none
    else none
    else none)) N0 0 h
set_option maxRecDepth 100000 in
def FA_X13_init_414 (x0 : Nat) (k439 : Ga → Option Ga) (self : Int32 → Ga → Option Ga) (x1 : Int32) (h : Ga) : Option Ga :=
  if 437 ≤ x1 then
    k439 h
  else
    if oA h 11 x0 = true then
    lt (h.2.2.2.2.2 x0 6) fun r225 =>
    if oA h 11 x0 = true then
    lt (h.2.2.2.2.2 x0 7) fun r227 =>
    if aA h 0 x1 r227 = true then
    if aA h 0 x1 r225 = true then
    lt (put4 h (sI h.2.2.2 r225 (x1.toNatClampNeg) (h.2.2.2.1 r227 x1.toNatClampNeg))) fun h230 =>
    self (x1 + 1) h230
    else none
    else none
    else none
    else none
set_option maxRecDepth 100000 in
def fA_X13_init (x0 : Nat) (h : Ga) : Option Ga :=
  if decide (¬ x0 = 0) = true then
  if naOk h 2 (940 : Int32) 30 14788 = true then
  lt (h.1 + 1) fun r3 =>
  lt (((h.1 + 1, h.2.1, h.2.2.1 + (940 : Int32).toNatClampNeg, nw h.2.2.2 (h.1 + 1)) : Ga)) fun h4 =>
  if oA h4 11 x0 = true then
  lt (put4 h4 (sR h4.2.2.2 x0 1 r3)) fun h6 =>
  if naOk h6 0 (713 : Int32) 30 14788 = true then
  lt (h6.1 + 1) fun r8 =>
  lt (((h6.1 + 1, h6.2.1, h6.2.2.1 + (713 : Int32).toNatClampNeg, nw h6.2.2.2 (h6.1 + 1)) : Ga)) fun h9 =>
  if oA h9 11 x0 = true then
  lt (put4 h9 (sR h9.2.2.2 x0 6 r8)) fun h11 =>
  if naOk h11 0 (437 : Int32) 30 14788 = true then
  lt (h11.1 + 1) fun r13 =>
  lt (((h11.1 + 1, h11.2.1, h11.2.2.1 + (437 : Int32).toNatClampNeg, nw h11.2.2.2 (h11.1 + 1)) : Ga)) fun h14 =>
  if oA h14 11 x0 = true then
  lt (put4 h14 (sR h14.2.2.2 x0 7 r13)) fun h16 =>
  if naOk h16 1 (32 : Int32) 30 14788 = true then
  lt (h16.1 + 1) fun r18 =>
  lt (((h16.1 + 1, h16.2.1, h16.2.2.1 + (32 : Int32).toNatClampNeg, nw h16.2.2.2 (h16.1 + 1)) : Ga)) fun h19 =>
  if oA h19 11 x0 = true then
  lt (put4 h19 (sR h19.2.2.2 x0 8 r18)) fun h21 =>
  if naOk h21 1 (16 : Int32) 30 14788 = true then
  lt (h21.1 + 1) fun r23 =>
  lt (((h21.1 + 1, h21.2.1, h21.2.2.1 + (16 : Int32).toNatClampNeg, nw h21.2.2.2 (h21.1 + 1)) : Ga)) fun h24 =>
  if oA h24 11 x0 = true then
  lt (put4 h24 (sR h24.2.2.2 x0 9 r23)) fun h26 =>
  if naOk h26 0 (24 : Int32) 30 14788 = true then
  lt (h26.1 + 1) fun r28 =>
  lt (((h26.1 + 1, h26.2.1, h26.2.2.1 + (24 : Int32).toNatClampNeg, nw h26.2.2.2 (h26.1 + 1)) : Ga)) fun h29 =>
  if oA h29 11 x0 = true then
  lt (put4 h29 (sR h29.2.2.2 x0 21 r28)) fun h31 =>
  if naOk h31 0 (24 : Int32) 30 14788 = true then
  lt (h31.1 + 1) fun r33 =>
  lt (((h31.1 + 1, h31.2.1, h31.2.2.1 + (24 : Int32).toNatClampNeg, nw h31.2.2.2 (h31.1 + 1)) : Ga)) fun h34 =>
  if oA h34 11 x0 = true then
  lt (put4 h34 (sR h34.2.2.2 x0 22 r33)) fun h36 =>
  if naOk h36 0 (24 : Int32) 30 14788 = true then
  lt (h36.1 + 1) fun r38 =>
  lt (((h36.1 + 1, h36.2.1, h36.2.2.1 + (24 : Int32).toNatClampNeg, nw h36.2.2.2 (h36.1 + 1)) : Ga)) fun h39 =>
  if oA h39 11 x0 = true then
  lt (put4 h39 (sR h39.2.2.2 x0 23 r38)) fun h41 =>
  if naOk h41 0 (10240 : Int32) 30 14788 = true then
  lt (h41.1 + 1) fun r43 =>
  lt (((h41.1 + 1, h41.2.1, h41.2.2.1 + (10240 : Int32).toNatClampNeg, nw h41.2.2.2 (h41.1 + 1)) : Ga)) fun h44 =>
  if oA h44 11 x0 = true then
  lt (put4 h44 (sR h44.2.2.2 x0 28 r43)) fun h46 =>
  if naOk h46 0 (40 : Int32) 30 14788 = true then
  lt (h46.1 + 1) fun r48 =>
  lt (((h46.1 + 1, h46.2.1, h46.2.2.1 + (40 : Int32).toNatClampNeg, nw h46.2.2.2 (h46.1 + 1)) : Ga)) fun h49 =>
  if oA h49 11 x0 = true then
  lt (put4 h49 (sR h49.2.2.2 x0 29 r48)) fun h51 =>
  if naOk h51 0 (25 : Int32) 30 14788 = true then
  lt (h51.1 + 1) fun r53 =>
  lt (((h51.1 + 1, h51.2.1, h51.2.2.1 + (25 : Int32).toNatClampNeg, nw h51.2.2.2 (h51.1 + 1)) : Ga)) fun h54 =>
  if oA h54 11 x0 = true then
  lt (put4 h54 (sR h54.2.2.2 x0 30 r53)) fun h56 =>
  if oA h56 11 x0 = true then
  lt (put4 h56 (sI h56.2.2.2 x0 31 1)) fun h58 =>
  if naOk h58 1 (125 : Int32) 30 14788 = true then
  lt (h58.1 + 1) fun r60 =>
  lt (((h58.1 + 1, h58.2.1, h58.2.2.1 + (125 : Int32).toNatClampNeg, nw h58.2.2.2 (h58.1 + 1)) : Ga)) fun h61 =>
  if oA h61 11 x0 = true then
  lt (put4 h61 (sR h61.2.2.2 x0 32 r60)) fun h63 =>
  if naOk h63 0 (6 : Int32) 30 14788 = true then
  lt (h63.1 + 1) fun r65 =>
  lt (((h63.1 + 1, h63.2.1, h63.2.2.1 + (6 : Int32).toNatClampNeg, nw h63.2.2.2 (h63.1 + 1)) : Ga)) fun h66 =>
  if oA h66 11 x0 = true then
  lt (put4 h66 (sR h66.2.2.2 x0 33 r65)) fun h68 =>
  if naOk h68 0 (144 : Int32) 30 14788 = true then
  lt (h68.1 + 1) fun r70 =>
  lt (((h68.1 + 1, h68.2.1, h68.2.2.1 + (144 : Int32).toNatClampNeg, nw h68.2.2.2 (h68.1 + 1)) : Ga)) fun h71 =>
  if oA h71 11 x0 = true then
  lt (put4 h71 (sR h71.2.2.2 x0 34 r70)) fun h73 =>
  if naOk h73 1 (145 : Int32) 30 14788 = true then
  lt (h73.1 + 1) fun r75 =>
  lt (((h73.1 + 1, h73.2.1, h73.2.2.1 + (145 : Int32).toNatClampNeg, nw h73.2.2.2 (h73.1 + 1)) : Ga)) fun h76 =>
  if oA h76 11 x0 = true then
  lt (put4 h76 (sR h76.2.2.2 x0 35 r75)) fun h78 =>
  if naOk h78 1 (84 : Int32) 30 14788 = true then
  lt (h78.1 + 1) fun r80 =>
  lt (((h78.1 + 1, h78.2.1, h78.2.2.1 + (84 : Int32).toNatClampNeg, nw h78.2.2.2 (h78.1 + 1)) : Ga)) fun h81 =>
  if oA h81 11 x0 = true then
  lt (put4 h81 (sR h81.2.2.2 x0 36 r80)) fun h83 =>
  if naOk h83 0 (6 : Int32) 30 14788 = true then
  lt (h83.1 + 1) fun r85 =>
  lt (((h83.1 + 1, h83.2.1, h83.2.2.1 + (6 : Int32).toNatClampNeg, nw h83.2.2.2 (h83.1 + 1)) : Ga)) fun h86 =>
  if oA h86 11 x0 = true then
  lt (put4 h86 (sR h86.2.2.2 x0 37 r85)) fun h88 =>
  if naOk h88 0 (14 : Int32) 30 14788 = true then
  lt (h88.1 + 1) fun r90 =>
  lt (((h88.1 + 1, h88.2.1, h88.2.2.1 + (14 : Int32).toNatClampNeg, nw h88.2.2.2 (h88.1 + 1)) : Ga)) fun h91 =>
  if oA h91 11 x0 = true then
  lt (put4 h91 (sR h91.2.2.2 x0 38 r90)) fun h93 =>
  if naOk h93 0 (14 : Int32) 30 14788 = true then
  lt (h93.1 + 1) fun r95 =>
  lt (((h93.1 + 1, h93.2.1, h93.2.2.1 + (14 : Int32).toNatClampNeg, nw h93.2.2.2 (h93.1 + 1)) : Ga)) fun h96 =>
  if oA h96 11 x0 = true then
  lt (put4 h96 (sR h96.2.2.2 x0 39 r95)) fun h98 =>
  if naOk h98 0 (84 : Int32) 30 14788 = true then
  lt (h98.1 + 1) fun r100 =>
  lt (((h98.1 + 1, h98.2.1, h98.2.2.1 + (84 : Int32).toNatClampNeg, nw h98.2.2.2 (h98.1 + 1)) : Ga)) fun h101 =>
  if oA h101 11 x0 = true then
  lt (put4 h101 (sR h101.2.2.2 x0 40 r100)) fun h103 =>
  if naOk h103 0 (24 : Int32) 30 14788 = true then
  lt (h103.1 + 1) fun r105 =>
  lt (((h103.1 + 1, h103.2.1, h103.2.2.1 + (24 : Int32).toNatClampNeg, nw h103.2.2.2 (h103.1 + 1)) : Ga)) fun h106 =>
  if oA h106 11 x0 = true then
  lt (put4 h106 (sR h106.2.2.2 x0 41 r105)) fun h108 =>
  if naOk h108 0 (15 : Int32) 30 14788 = true then
  lt (h108.1 + 1) fun r110 =>
  lt (((h108.1 + 1, h108.2.1, h108.2.2.1 + (15 : Int32).toNatClampNeg, nw h108.2.2.2 (h108.1 + 1)) : Ga)) fun h111 =>
  if oA h111 11 x0 = true then
  lt (put4 h111 (sR h111.2.2.2 x0 45 r110)) fun h113 =>
  if naOk h113 0 (12 : Int32) 30 14788 = true then
  lt (h113.1 + 1) fun r115 =>
  lt (((h113.1 + 1, h113.2.1, h113.2.2.1 + (12 : Int32).toNatClampNeg, nw h113.2.2.2 (h113.1 + 1)) : Ga)) fun h116 =>
  if oA h116 11 x0 = true then
  lt (put4 h116 (sR h116.2.2.2 x0 46 r115)) fun h118 =>
  if naOk h118 0 (3 : Int32) 30 14788 = true then
  lt (h118.1 + 1) fun r120 =>
  lt (((h118.1 + 1, h118.2.1, h118.2.2.1 + (3 : Int32).toNatClampNeg, nw h118.2.2.2 (h118.1 + 1)) : Ga)) fun h121 =>
  if oA h121 11 x0 = true then
  lt (put4 h121 (sR h121.2.2.2 x0 47 r120)) fun h123 =>
  if naOk h123 0 (12 : Int32) 30 14788 = true then
  lt (h123.1 + 1) fun r125 =>
  lt (((h123.1 + 1, h123.2.1, h123.2.2.1 + (12 : Int32).toNatClampNeg, nw h123.2.2.2 (h123.1 + 1)) : Ga)) fun h126 =>
  if oA h126 11 x0 = true then
  lt (put4 h126 (sR h126.2.2.2 x0 48 r125)) fun h128 =>
  if naOk h128 1 (60 : Int32) 30 14788 = true then
  lt (h128.1 + 1) fun r130 =>
  lt (((h128.1 + 1, h128.2.1, h128.2.2.1 + (60 : Int32).toNatClampNeg, nw h128.2.2.2 (h128.1 + 1)) : Ga)) fun h131 =>
  if oA h131 11 x0 = true then
  lt (put4 h131 (sR h131.2.2.2 x0 49 r130)) fun h133 =>
  if naOk h133 1 (65 : Int32) 30 14788 = true then
  lt (h133.1 + 1) fun r135 =>
  lt (((h133.1 + 1, h133.2.1, h133.2.2.1 + (65 : Int32).toNatClampNeg, nw h133.2.2.2 (h133.1 + 1)) : Ga)) fun h136 =>
  if oA h136 11 x0 = true then
  lt (put4 h136 (sR h136.2.2.2 x0 50 r135)) fun h138 =>
  if naOk h138 0 (1426 : Int32) 30 14788 = true then
  lt (h138.1 + 1) fun r140 =>
  lt (((h138.1 + 1, h138.2.1, h138.2.2.1 + (1426 : Int32).toNatClampNeg, nw h138.2.2.2 (h138.1 + 1)) : Ga)) fun h141 =>
  if oA h141 11 x0 = true then
  lt (put4 h141 (sR h141.2.2.2 x0 54 r140)) fun h143 =>
  if naOk h143 1 (32 : Int32) 30 14788 = true then
  lt (h143.1 + 1) fun r145 =>
  lt (((h143.1 + 1, h143.2.1, h143.2.2.1 + (32 : Int32).toNatClampNeg, nw h143.2.2.2 (h143.1 + 1)) : Ga)) fun h146 =>
  if oA h146 11 x0 = true then
  lt (put4 h146 (sR h146.2.2.2 x0 55 r145)) fun h148 =>
  if naOk h148 3 (2 : Int32) 30 14788 = true then
  lt (h148.1 + 1) fun r150 =>
  lt (((h148.1 + 1, h148.2.1, h148.2.2.1 + (2 : Int32).toNatClampNeg, nw h148.2.2.2 (h148.1 + 1)) : Ga)) fun h151 =>
  if oA h151 11 x0 = true then
  lt (put4 h151 (sR h151.2.2.2 x0 56 r150)) fun h153 =>
  if oA h153 11 x0 = true then
  lt (h153.2.2.2.2.2 x0 9) fun r155 =>
  if aA h153 1 0 r155 = true then
  lt (put4 h153 (sL h153.2.2.2 r155 ((0 : Int32).toNatClampNeg) 1936683636)) fun h157 =>
  if oA h157 11 x0 = true then
  lt (h157.2.2.2.2.2 x0 9) fun r159 =>
  if aA h157 1 1 r159 = true then
  lt (put4 h157 (sL h157.2.2.2 r159 ((1 : Int32).toNatClampNeg) 108187666181747)) fun h161 =>
  if oA h161 11 x0 = true then
  lt (h161.2.2.2.2.2 x0 9) fun r163 =>
  if aA h161 1 2 r163 = true then
  lt (put4 h161 (sL h161.2.2.2 r163 ((2 : Int32).toNatClampNeg) 1701733491)) fun h165 =>
  if oA h165 11 x0 = true then
  lt (h165.2.2.2.2.2 x0 9) fun r167 =>
  if aA h165 1 3 r167 = true then
  lt (put4 h165 (sL h165.2.2.2 r167 ((3 : Int32).toNatClampNeg) 1835102827)) fun h169 =>
  if oA h169 11 x0 = true then
  lt (h169.2.2.2.2.2 x0 9) fun r171 =>
  if aA h169 1 4 r171 = true then
  lt (put4 h169 (sL h169.2.2.2 r171 ((4 : Int32).toNatClampNeg) 112628746448759)) fun h173 =>
  if oA h173 11 x0 = true then
  lt (h173.2.2.2.2.2 x0 9) fun r175 =>
  if aA h173 1 5 r175 = true then
  lt (put4 h173 (sL h173.2.2.2 r175 ((5 : Int32).toNatClampNeg) 2003792484)) fun h177 =>
  if oA h177 11 x0 = true then
  lt (h177.2.2.2.2.2 x0 9) fun r179 =>
  if aA h177 1 6 r179 = true then
  lt (put4 h177 (sL h177.2.2.2 r179 ((6 : Int32).toNatClampNeg) 422607680627)) fun h181 =>
  if oA h181 11 x0 = true then
  lt (h181.2.2.2.2.2 x0 9) fun r183 =>
  if aA h181 1 7 r183 = true then
  lt (put4 h181 (sL h181.2.2.2 r183 ((7 : Int32).toNatClampNeg) 131277443786867)) fun h185 =>
  if oA h185 11 x0 = true then
  lt (h185.2.2.2.2.2 x0 9) fun r187 =>
  if aA h185 1 8 r187 = true then
  lt (put4 h185 (sL h185.2.2.2 r187 ((8 : Int32).toNatClampNeg) 427071599731)) fun h189 =>
  if oA h189 11 x0 = true then
  lt (h189.2.2.2.2.2 x0 9) fun r191 =>
  if aA h189 1 9 r191 = true then
  lt (put4 h189 (sL h189.2.2.2 r191 ((9 : Int32).toNatClampNeg) 1768189029)) fun h193 =>
  if oA h193 11 x0 = true then
  lt (h193.2.2.2.2.2 x0 9) fun r195 =>
  if aA h193 1 10 r195 = true then
  lt (put4 h193 (sL h193.2.2.2 r195 ((10 : Int32).toNatClampNeg) 491327153267)) fun h197 =>
  if oA h197 11 x0 = true then
  lt (h197.2.2.2.2.2 x0 9) fun r199 =>
  if aA h197 1 11 r199 = true then
  lt (put4 h197 (sL h197.2.2.2 r199 ((11 : Int32).toNatClampNeg) 1936028787)) fun h201 =>
  if oA h201 11 x0 = true then
  lt (h201.2.2.2.2.2 x0 9) fun r203 =>
  if aA h201 1 12 r203 = true then
  lt (put4 h201 (sL h201.2.2.2 r203 ((12 : Int32).toNatClampNeg) 109317208502899)) fun h205 =>
  if oA h205 11 x0 = true then
  lt (h205.2.2.2.2.2 x0 9) fun r207 =>
  if aA h205 1 13 r207 = true then
  lt (put4 h205 (sL h205.2.2.2 r207 ((13 : Int32).toNatClampNeg) 500186639987)) fun h209 =>
  if oA h209 11 x0 = true then
  lt (h209.2.2.2.2.2 x0 9) fun r211 =>
  if aA h209 1 14 r211 = true then
  lt (put4 h209 (sL h209.2.2.2 r211 ((14 : Int32).toNatClampNeg) 435476325236)) fun h213 =>
  if oA h213 11 x0 = true then
  lt (h213.2.2.2.2.2 x0 9) fun r215 =>
  if aA h213 1 15 r215 = true then
  lt (put4 h213 (sL h213.2.2.2 r215 ((15 : Int32).toNatClampNeg) 427020350059)) fun h217 =>
  if oA h217 11 x0 = true then
  bna (fA_X13_plainTongue x0) h217 0 0 30 14788 fun h218 =>
  itr2 (FA_X13_init_414 x0 (fun h231 =>
    if vrOk h231 30 14788 = true then
    some h231
    else none)) N0 0 h218
  else none
  else none
  else none
  else none
  else none
  else none
  else none
  else none
  else none
  else none
  else none
  else none
  else none
  else none
  else none
  else none
  else none
  else none
  else none
  else none
  else none
  else none
  else none
  else none
  else none
  else none
  else none
  else none
  else none
  else none
  else none
  else none
  else none
  else none
  else none
  else none
  else none
  else none
  else none
  else none
  else none
  else none
  else none
  else none
  else none
  else none
  else none
  else none
  else none
  else none
  else none
  else none
  else none
  else none
  else none
  else none
  else none
  else none
  else none
  else none
  else none
  else none
  else none
  else none
  else none
  else none
  else none
  else none
  else none
  else none
  else none
  else none
  else none
  else none
  else none
  else none
  else none
  else none
  else none
  else none
  else none
  else none
  else none
  else none
  else none
  else none
  else none
  else none
  else none
  else none
  else none
  else none
  else none
  else none
  else none
