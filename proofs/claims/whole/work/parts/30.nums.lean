/-! ===== numbers ===== -/
theorem fa_lt (a b : Int32) : a < b ↔ a.toInt < b.toInt := Int32.lt_iff_toInt_lt
theorem fa_le (a b : Int32) : a ≤ b ↔ a.toInt ≤ b.toInt := Int32.le_iff_toInt_le
theorem fa_eq (a b : Int32) : a = b ↔ a.toInt = b.toInt := Int32.toInt_inj.symm
theorem fa_lit (n : Nat) : (OfNat.ofNat n : Int32) = nI n := rfl
theorem fa_litL (n : Nat) : (OfNat.ofNat n : Int64) = lN n := rfl
theorem fa_and (a b : Nat) : nI a &&& nI b = nI (a &&& b) := by
  apply Int32.toBitVec_inj.mp
  show BitVec.ofNat 32 a &&& BitVec.ofNat 32 b = BitVec.ofNat 32 (a &&& b)
  apply BitVec.eq_of_getLsbD_eq
  intro i hi
  simp [BitVec.getLsbD_ofNat, hi]
theorem fa_or (a b : Nat) : nI a ||| nI b = nI (a ||| b) := by
  apply Int32.toBitVec_inj.mp
  show BitVec.ofNat 32 a ||| BitVec.ofNat 32 b = BitVec.ofNat 32 (a ||| b)
  apply BitVec.eq_of_getLsbD_eq
  intro i hi
  simp [BitVec.getLsbD_ofNat, hi]
theorem fa_xor (a b : Nat) : nI a ^^^ nI b = nI (a ^^^ b) := by
  apply Int32.toBitVec_inj.mp
  show BitVec.ofNat 32 a ^^^ BitVec.ofNat 32 b = BitVec.ofNat 32 (a ^^^ b)
  apply BitVec.eq_of_getLsbD_eq
  intro i hi
  simp [BitVec.getLsbD_ofNat, hi]
/-- the place of a number in a row of n -/
theorem inb_nI {k n : Nat} (h : k < n) (hn : n < 2 ^ 31) : inb (nI k) n = true := by
  simp only [inb, Bool.and_eq_true, decide_eq_true_eq]
  exact ⟨nI_pos' (by omega), by rw [nI_clamp (by omega)]; exact h⟩
theorem nI_m1 {n : Nat} (h : 0 < n) : nI n + (-1) = nI (n - 1) := sb_m1 h
theorem nI_neg (n : Nat) (h : n < 2 ^ 31) : ¬ nI n < 0 := nI_pos h
theorem nI_m1lt {n : Nat} (h : n < 2 ^ 31) : ¬ nI n = -1 := by
  rw [fa_eq, nI_toInt h, show ((-1 : Int32)).toInt = -1 from rfl]
  omega
theorem m1_lt0 : ((-1 : Int32) < 0) := by decide
/-- a number between two: which one -/
theorem in_range {x : Int32} {a b : Nat} (ha : a < 2 ^ 31) (hb : b < 2 ^ 31) (h1 : ¬ x < nI a) (h2 : ¬ nI b < x) : ∃ j, a ≤ j ∧ j ≤ b ∧ x = nI j := by
  rw [fa_lt, nI_toInt ha] at h1
  rw [fa_lt, nI_toInt hb] at h2
  refine ⟨x.toInt.toNat, by omega, by omega, ?_⟩
  rw [fa_eq, nI_toInt (by omega)]
  omega
theorem out_lo {j a : Nat} (hj : j < 2 ^ 31) (ha : a < 2 ^ 31) (h : a ≤ j) : ¬ nI j < nI a := nI_nlt h hj
/-! ===== reading behind stores ===== -/
theorem sI1 (h : Hp) (a k : Nat) (v : Int32) (b j : Nat) : (sI h a k v).1 b j = if b = a ∧ j = k then v else h.1 b j := rfl
theorem sI2 (h : Hp) (a k : Nat) (v : Int32) : (sI h a k v).2 = h.2 := rfl
theorem sL1 (h : Hp) (a k : Nat) (v : Int64) : (sL h a k v).1 = h.1 := rfl
theorem sL2 (h : Hp) (a k : Nat) (v : Int64) (b j : Nat) : (sL h a k v).2.1 b j = if b = a ∧ j = k then v else h.2.1 b j := rfl
theorem sL3 (h : Hp) (a k : Nat) (v : Int64) : (sL h a k v).2.2 = h.2.2 := rfl
theorem sR1 (h : Hp) (a k v : Nat) : (sR h a k v).1 = h.1 := rfl
theorem sR2 (h : Hp) (a k v : Nat) : (sR h a k v).2.1 = h.2.1 := rfl
theorem sR3 (h : Hp) (a k v b j : Nat) : (sR h a k v).2.2 b j = if b = a ∧ j = k then v else h.2.2 b j := rfl
theorem sI_ne1 {h : Hp} {a k : Nat} {v : Int32} {b j : Nat} (hb : b ≠ a) : (sI h a k v).1 b j = h.1 b j := if_neg (fun z => hb z.1)
theorem sI_nk1 {h : Hp} {a k : Nat} {v : Int32} {b j : Nat} (hj : j ≠ k) : (sI h a k v).1 b j = h.1 b j := if_neg (fun z => hj z.2)
theorem sL_ne1 {h : Hp} {a k : Nat} {v : Int64} {b j : Nat} (hb : b ≠ a) : (sL h a k v).2.1 b j = h.2.1 b j := if_neg (fun z => hb z.1)
theorem sL_nk1 {h : Hp} {a k : Nat} {v : Int64} {b j : Nat} (hj : j ≠ k) : (sL h a k v).2.1 b j = h.2.1 b j := if_neg (fun z => hj z.2)
/-- the cells that are not in X are the same -/
def Same (X : List Nat) (h h' : Hp) : Prop := ∀ a, a ∉ X → h'.1 a = h.1 a ∧ h'.2.1 a = h.2.1 a ∧ h'.2.2 a = h.2.2 a
theorem Same.rf {X : List Nat} {h : Hp} : Same X h h := fun _ _ => ⟨rfl, rfl, rfl⟩
theorem Same.tr {X : List Nat} {h h1 h2 : Hp} (a : Same X h h1) (b : Same X h1 h2) : Same X h h2 := fun q hq => ⟨(b q hq).1.trans (a q hq).1, (b q hq).2.1.trans (a q hq).2.1, (b q hq).2.2.trans (a q hq).2.2⟩
theorem Same.mono {X Y : List Nat} {h h1 : Hp} (a : Same X h h1) (hXY : ∀ q, q ∈ X → q ∈ Y) : Same Y h h1 := fun q hq => a q (fun z => hq (hXY q z))
theorem Same.ofI {X : List Nat} {h : Hp} {a k : Nat} {v : Int32} (ha : a ∈ X) : Same X h (sI h a k v) := fun q hq => ⟨funext fun _ => sI_ne1 (fun z => hq (z ▸ ha)), rfl, rfl⟩
theorem Same.ofL {X : List Nat} {h : Hp} {a k : Nat} {v : Int64} (ha : a ∈ X) : Same X h (sL h a k v) := fun q hq => ⟨rfl, funext fun _ => sL_ne1 (fun z => hq (z ▸ ha)), rfl⟩
theorem sR_ne1 {h : Hp} {a k v b j : Nat} (hb : b ≠ a) : (sR h a k v).2.2 b j = h.2.2 b j := if_neg (fun z => hb z.1)
theorem cI_ne1 {h : Hp} {x i y j n b k : Nat} (hb : b ≠ y) : (cI h x i y j n).1 b k = h.1 b k := if_neg hb
theorem cL_ne1 {h : Hp} {x i y j n b k : Nat} (hb : b ≠ y) : (cL h x i y j n).2.1 b k = h.2.1 b k := if_neg hb
theorem cI_at {h : Hp} {x i y j n k : Nat} : (cI h x i y j n).1 y k = va_cpy (h.1 x) (h.1 y) i j n k := if_pos rfl
theorem cL_at {h : Hp} {x i y j n k : Nat} : (cL h x i y j n).2.1 y k = va_cpy (h.2.1 x) (h.2.1 y) i j n k := if_pos rfl
theorem Same.ofR {X : List Nat} {h : Hp} {a k v : Nat} (ha : a ∈ X) : Same X h (sR h a k v) := fun q hq => ⟨rfl, rfl, funext fun _ => sR_ne1 (fun z => hq (z ▸ ha))⟩
theorem Same.ofCI {X : List Nat} {h : Hp} {x i y j n : Nat} (ha : y ∈ X) : Same X h (cI h x i y j n) := fun q hq => ⟨funext fun _ => cI_ne1 (fun z => hq (z ▸ ha)), rfl, rfl⟩
theorem Same.ofCL {X : List Nat} {h : Hp} {x i y j n : Nat} (ha : y ∈ X) : Same X h (cL h x i y j n) := fun q hq => ⟨rfl, funext fun _ => cL_ne1 (fun z => hq (z ▸ ha)), rfl⟩
theorem bnd_s {α β : Type} {o : Option (α × Hp)} {x : α} {h : Hp} {k : α → Hp → Option β} (e : o = some (x, h)) : bnd o k = k x h := by rw [e]; rfl
theorem bnv_s {β : Type} {o : Option Hp} {h : Hp} {k : Hp → Option β} (e : o = some h) : bnv o k = k h := by rw [e]; rfl
theorem lt_s0 {α β : Type} (a : α) (f : α → β) : lt a f = f a := rfl
theorem N0_big : 1000000000 < N0 := by decide
/-- N0 turns are enough: for a loop that needs at most n -/
theorem N0_s (n : Nat) (h : n ≤ 1000000) : ∃ m, N0 = m + n + 1 := ⟨N0 - n - 1, by have := N0_big; omega⟩
/-! ===== loops ===== -/
theorem itr1_loop {A1 β : Type} {F : (A1 → Option β) → A1 → Option β} (R : Option β → Prop) (P : Nat → A1 → Prop) (hs : ∀ (d : Nat) (self : A1 → Option β) (a1 : A1), P d a1 → R (F self a1) ∨ ∃ (d2 : Nat) (b1 : A1), d2 < d ∧ P d2 b1 ∧ F self a1 = self b1) : ∀ (d : Nat) (a1 : A1) (n : Nat), d < n → P d a1 → R (itr1 F n a1) := by
  intro d
  induction d using Nat.strongRecOn with
  | ind d ih =>
    intro a1 n hn hp
    cases n with
    | zero => omega
    | succ n =>
      show R (F (itr1 F n) a1)
      rcases hs d (itr1 F n) a1 hp with h1 | ⟨d2, b1, h1, h2, h3⟩
      · exact h1
      · rw [h3]
        exact ih d2 h1 b1 n (by omega) h2
theorem itr2_loop {A1 A2 β : Type} {F : (A1 → A2 → Option β) → A1 → A2 → Option β} (R : Option β → Prop) (P : Nat → A1 → A2 → Prop) (hs : ∀ (d : Nat) (self : A1 → A2 → Option β) (a1 : A1) (a2 : A2), P d a1 a2 → R (F self a1 a2) ∨ ∃ (d2 : Nat) (b1 : A1) (b2 : A2), d2 < d ∧ P d2 b1 b2 ∧ F self a1 a2 = self b1 b2) : ∀ (d : Nat) (a1 : A1) (a2 : A2) (n : Nat), d < n → P d a1 a2 → R (itr2 F n a1 a2) := by
  intro d
  induction d using Nat.strongRecOn with
  | ind d ih =>
    intro a1 a2 n hn hp
    cases n with
    | zero => omega
    | succ n =>
      show R (F (itr2 F n) a1 a2)
      rcases hs d (itr2 F n) a1 a2 hp with h1 | ⟨d2, b1, b2, h1, h2, h3⟩
      · exact h1
      · rw [h3]
        exact ih d2 h1 b1 b2 n (by omega) h2
theorem itr3_loop {A1 A2 A3 β : Type} {F : (A1 → A2 → A3 → Option β) → A1 → A2 → A3 → Option β} (R : Option β → Prop) (P : Nat → A1 → A2 → A3 → Prop) (hs : ∀ (d : Nat) (self : A1 → A2 → A3 → Option β) (a1 : A1) (a2 : A2) (a3 : A3), P d a1 a2 a3 → R (F self a1 a2 a3) ∨ ∃ (d2 : Nat) (b1 : A1) (b2 : A2) (b3 : A3), d2 < d ∧ P d2 b1 b2 b3 ∧ F self a1 a2 a3 = self b1 b2 b3) : ∀ (d : Nat) (a1 : A1) (a2 : A2) (a3 : A3) (n : Nat), d < n → P d a1 a2 a3 → R (itr3 F n a1 a2 a3) := by
  intro d
  induction d using Nat.strongRecOn with
  | ind d ih =>
    intro a1 a2 a3 n hn hp
    cases n with
    | zero => omega
    | succ n =>
      show R (F (itr3 F n) a1 a2 a3)
      rcases hs d (itr3 F n) a1 a2 a3 hp with h1 | ⟨d2, b1, b2, b3, h1, h2, h3⟩
      · exact h1
      · rw [h3]
        exact ih d2 h1 b1 b2 b3 n (by omega) h2
theorem itr4_loop {A1 A2 A3 A4 β : Type} {F : (A1 → A2 → A3 → A4 → Option β) → A1 → A2 → A3 → A4 → Option β} (R : Option β → Prop) (P : Nat → A1 → A2 → A3 → A4 → Prop) (hs : ∀ (d : Nat) (self : A1 → A2 → A3 → A4 → Option β) (a1 : A1) (a2 : A2) (a3 : A3) (a4 : A4), P d a1 a2 a3 a4 → R (F self a1 a2 a3 a4) ∨ ∃ (d2 : Nat) (b1 : A1) (b2 : A2) (b3 : A3) (b4 : A4), d2 < d ∧ P d2 b1 b2 b3 b4 ∧ F self a1 a2 a3 a4 = self b1 b2 b3 b4) : ∀ (d : Nat) (a1 : A1) (a2 : A2) (a3 : A3) (a4 : A4) (n : Nat), d < n → P d a1 a2 a3 a4 → R (itr4 F n a1 a2 a3 a4) := by
  intro d
  induction d using Nat.strongRecOn with
  | ind d ih =>
    intro a1 a2 a3 a4 n hn hp
    cases n with
    | zero => omega
    | succ n =>
      show R (F (itr4 F n) a1 a2 a3 a4)
      rcases hs d (itr4 F n) a1 a2 a3 a4 hp with h1 | ⟨d2, b1, b2, b3, b4, h1, h2, h3⟩
      · exact h1
      · rw [h3]
        exact ih d2 h1 b1 b2 b3 b4 n (by omega) h2
theorem itr5_loop {A1 A2 A3 A4 A5 β : Type} {F : (A1 → A2 → A3 → A4 → A5 → Option β) → A1 → A2 → A3 → A4 → A5 → Option β} (R : Option β → Prop) (P : Nat → A1 → A2 → A3 → A4 → A5 → Prop) (hs : ∀ (d : Nat) (self : A1 → A2 → A3 → A4 → A5 → Option β) (a1 : A1) (a2 : A2) (a3 : A3) (a4 : A4) (a5 : A5), P d a1 a2 a3 a4 a5 → R (F self a1 a2 a3 a4 a5) ∨ ∃ (d2 : Nat) (b1 : A1) (b2 : A2) (b3 : A3) (b4 : A4) (b5 : A5), d2 < d ∧ P d2 b1 b2 b3 b4 b5 ∧ F self a1 a2 a3 a4 a5 = self b1 b2 b3 b4 b5) : ∀ (d : Nat) (a1 : A1) (a2 : A2) (a3 : A3) (a4 : A4) (a5 : A5) (n : Nat), d < n → P d a1 a2 a3 a4 a5 → R (itr5 F n a1 a2 a3 a4 a5) := by
  intro d
  induction d using Nat.strongRecOn with
  | ind d ih =>
    intro a1 a2 a3 a4 a5 n hn hp
    cases n with
    | zero => omega
    | succ n =>
      show R (F (itr5 F n) a1 a2 a3 a4 a5)
      rcases hs d (itr5 F n) a1 a2 a3 a4 a5 hp with h1 | ⟨d2, b1, b2, b3, b4, b5, h1, h2, h3⟩
      · exact h1
      · rw [h3]
        exact ih d2 h1 b1 b2 b3 b4 b5 n (by omega) h2
theorem itr6_loop {A1 A2 A3 A4 A5 A6 β : Type} {F : (A1 → A2 → A3 → A4 → A5 → A6 → Option β) → A1 → A2 → A3 → A4 → A5 → A6 → Option β} (R : Option β → Prop) (P : Nat → A1 → A2 → A3 → A4 → A5 → A6 → Prop) (hs : ∀ (d : Nat) (self : A1 → A2 → A3 → A4 → A5 → A6 → Option β) (a1 : A1) (a2 : A2) (a3 : A3) (a4 : A4) (a5 : A5) (a6 : A6), P d a1 a2 a3 a4 a5 a6 → R (F self a1 a2 a3 a4 a5 a6) ∨ ∃ (d2 : Nat) (b1 : A1) (b2 : A2) (b3 : A3) (b4 : A4) (b5 : A5) (b6 : A6), d2 < d ∧ P d2 b1 b2 b3 b4 b5 b6 ∧ F self a1 a2 a3 a4 a5 a6 = self b1 b2 b3 b4 b5 b6) : ∀ (d : Nat) (a1 : A1) (a2 : A2) (a3 : A3) (a4 : A4) (a5 : A5) (a6 : A6) (n : Nat), d < n → P d a1 a2 a3 a4 a5 a6 → R (itr6 F n a1 a2 a3 a4 a5 a6) := by
  intro d
  induction d using Nat.strongRecOn with
  | ind d ih =>
    intro a1 a2 a3 a4 a5 a6 n hn hp
    cases n with
    | zero => omega
    | succ n =>
      show R (F (itr6 F n) a1 a2 a3 a4 a5 a6)
      rcases hs d (itr6 F n) a1 a2 a3 a4 a5 a6 hp with h1 | ⟨d2, b1, b2, b3, b4, b5, b6, h1, h2, h3⟩
      · exact h1
      · rw [h3]
        exact ih d2 h1 b1 b2 b3 b4 b5 b6 n (by omega) h2
theorem itr7_loop {A1 A2 A3 A4 A5 A6 A7 β : Type} {F : (A1 → A2 → A3 → A4 → A5 → A6 → A7 → Option β) → A1 → A2 → A3 → A4 → A5 → A6 → A7 → Option β} (R : Option β → Prop) (P : Nat → A1 → A2 → A3 → A4 → A5 → A6 → A7 → Prop) (hs : ∀ (d : Nat) (self : A1 → A2 → A3 → A4 → A5 → A6 → A7 → Option β) (a1 : A1) (a2 : A2) (a3 : A3) (a4 : A4) (a5 : A5) (a6 : A6) (a7 : A7), P d a1 a2 a3 a4 a5 a6 a7 → R (F self a1 a2 a3 a4 a5 a6 a7) ∨ ∃ (d2 : Nat) (b1 : A1) (b2 : A2) (b3 : A3) (b4 : A4) (b5 : A5) (b6 : A6) (b7 : A7), d2 < d ∧ P d2 b1 b2 b3 b4 b5 b6 b7 ∧ F self a1 a2 a3 a4 a5 a6 a7 = self b1 b2 b3 b4 b5 b6 b7) : ∀ (d : Nat) (a1 : A1) (a2 : A2) (a3 : A3) (a4 : A4) (a5 : A5) (a6 : A6) (a7 : A7) (n : Nat), d < n → P d a1 a2 a3 a4 a5 a6 a7 → R (itr7 F n a1 a2 a3 a4 a5 a6 a7) := by
  intro d
  induction d using Nat.strongRecOn with
  | ind d ih =>
    intro a1 a2 a3 a4 a5 a6 a7 n hn hp
    cases n with
    | zero => omega
    | succ n =>
      show R (F (itr7 F n) a1 a2 a3 a4 a5 a6 a7)
      rcases hs d (itr7 F n) a1 a2 a3 a4 a5 a6 a7 hp with h1 | ⟨d2, b1, b2, b3, b4, b5, b6, b7, h1, h2, h3⟩
      · exact h1
      · rw [h3]
        exact ih d2 h1 b1 b2 b3 b4 b5 b6 b7 n (by omega) h2
theorem itr8_loop {A1 A2 A3 A4 A5 A6 A7 A8 β : Type} {F : (A1 → A2 → A3 → A4 → A5 → A6 → A7 → A8 → Option β) → A1 → A2 → A3 → A4 → A5 → A6 → A7 → A8 → Option β} (R : Option β → Prop) (P : Nat → A1 → A2 → A3 → A4 → A5 → A6 → A7 → A8 → Prop) (hs : ∀ (d : Nat) (self : A1 → A2 → A3 → A4 → A5 → A6 → A7 → A8 → Option β) (a1 : A1) (a2 : A2) (a3 : A3) (a4 : A4) (a5 : A5) (a6 : A6) (a7 : A7) (a8 : A8), P d a1 a2 a3 a4 a5 a6 a7 a8 → R (F self a1 a2 a3 a4 a5 a6 a7 a8) ∨ ∃ (d2 : Nat) (b1 : A1) (b2 : A2) (b3 : A3) (b4 : A4) (b5 : A5) (b6 : A6) (b7 : A7) (b8 : A8), d2 < d ∧ P d2 b1 b2 b3 b4 b5 b6 b7 b8 ∧ F self a1 a2 a3 a4 a5 a6 a7 a8 = self b1 b2 b3 b4 b5 b6 b7 b8) : ∀ (d : Nat) (a1 : A1) (a2 : A2) (a3 : A3) (a4 : A4) (a5 : A5) (a6 : A6) (a7 : A7) (a8 : A8) (n : Nat), d < n → P d a1 a2 a3 a4 a5 a6 a7 a8 → R (itr8 F n a1 a2 a3 a4 a5 a6 a7 a8) := by
  intro d
  induction d using Nat.strongRecOn with
  | ind d ih =>
    intro a1 a2 a3 a4 a5 a6 a7 a8 n hn hp
    cases n with
    | zero => omega
    | succ n =>
      show R (F (itr8 F n) a1 a2 a3 a4 a5 a6 a7 a8)
      rcases hs d (itr8 F n) a1 a2 a3 a4 a5 a6 a7 a8 hp with h1 | ⟨d2, b1, b2, b3, b4, b5, b6, b7, b8, h1, h2, h3⟩
      · exact h1
      · rw [h3]
        exact ih d2 h1 b1 b2 b3 b4 b5 b6 b7 b8 n (by omega) h2
theorem itr9_loop {A1 A2 A3 A4 A5 A6 A7 A8 A9 β : Type} {F : (A1 → A2 → A3 → A4 → A5 → A6 → A7 → A8 → A9 → Option β) → A1 → A2 → A3 → A4 → A5 → A6 → A7 → A8 → A9 → Option β} (R : Option β → Prop) (P : Nat → A1 → A2 → A3 → A4 → A5 → A6 → A7 → A8 → A9 → Prop) (hs : ∀ (d : Nat) (self : A1 → A2 → A3 → A4 → A5 → A6 → A7 → A8 → A9 → Option β) (a1 : A1) (a2 : A2) (a3 : A3) (a4 : A4) (a5 : A5) (a6 : A6) (a7 : A7) (a8 : A8) (a9 : A9), P d a1 a2 a3 a4 a5 a6 a7 a8 a9 → R (F self a1 a2 a3 a4 a5 a6 a7 a8 a9) ∨ ∃ (d2 : Nat) (b1 : A1) (b2 : A2) (b3 : A3) (b4 : A4) (b5 : A5) (b6 : A6) (b7 : A7) (b8 : A8) (b9 : A9), d2 < d ∧ P d2 b1 b2 b3 b4 b5 b6 b7 b8 b9 ∧ F self a1 a2 a3 a4 a5 a6 a7 a8 a9 = self b1 b2 b3 b4 b5 b6 b7 b8 b9) : ∀ (d : Nat) (a1 : A1) (a2 : A2) (a3 : A3) (a4 : A4) (a5 : A5) (a6 : A6) (a7 : A7) (a8 : A8) (a9 : A9) (n : Nat), d < n → P d a1 a2 a3 a4 a5 a6 a7 a8 a9 → R (itr9 F n a1 a2 a3 a4 a5 a6 a7 a8 a9) := by
  intro d
  induction d using Nat.strongRecOn with
  | ind d ih =>
    intro a1 a2 a3 a4 a5 a6 a7 a8 a9 n hn hp
    cases n with
    | zero => omega
    | succ n =>
      show R (F (itr9 F n) a1 a2 a3 a4 a5 a6 a7 a8 a9)
      rcases hs d (itr9 F n) a1 a2 a3 a4 a5 a6 a7 a8 a9 hp with h1 | ⟨d2, b1, b2, b3, b4, b5, b6, b7, b8, b9, h1, h2, h3⟩
      · exact h1
      · rw [h3]
        exact ih d2 h1 b1 b2 b3 b4 b5 b6 b7 b8 b9 n (by omega) h2
theorem itr10_loop {A1 A2 A3 A4 A5 A6 A7 A8 A9 A10 β : Type} {F : (A1 → A2 → A3 → A4 → A5 → A6 → A7 → A8 → A9 → A10 → Option β) → A1 → A2 → A3 → A4 → A5 → A6 → A7 → A8 → A9 → A10 → Option β} (R : Option β → Prop) (P : Nat → A1 → A2 → A3 → A4 → A5 → A6 → A7 → A8 → A9 → A10 → Prop) (hs : ∀ (d : Nat) (self : A1 → A2 → A3 → A4 → A5 → A6 → A7 → A8 → A9 → A10 → Option β) (a1 : A1) (a2 : A2) (a3 : A3) (a4 : A4) (a5 : A5) (a6 : A6) (a7 : A7) (a8 : A8) (a9 : A9) (a10 : A10), P d a1 a2 a3 a4 a5 a6 a7 a8 a9 a10 → R (F self a1 a2 a3 a4 a5 a6 a7 a8 a9 a10) ∨ ∃ (d2 : Nat) (b1 : A1) (b2 : A2) (b3 : A3) (b4 : A4) (b5 : A5) (b6 : A6) (b7 : A7) (b8 : A8) (b9 : A9) (b10 : A10), d2 < d ∧ P d2 b1 b2 b3 b4 b5 b6 b7 b8 b9 b10 ∧ F self a1 a2 a3 a4 a5 a6 a7 a8 a9 a10 = self b1 b2 b3 b4 b5 b6 b7 b8 b9 b10) : ∀ (d : Nat) (a1 : A1) (a2 : A2) (a3 : A3) (a4 : A4) (a5 : A5) (a6 : A6) (a7 : A7) (a8 : A8) (a9 : A9) (a10 : A10) (n : Nat), d < n → P d a1 a2 a3 a4 a5 a6 a7 a8 a9 a10 → R (itr10 F n a1 a2 a3 a4 a5 a6 a7 a8 a9 a10) := by
  intro d
  induction d using Nat.strongRecOn with
  | ind d ih =>
    intro a1 a2 a3 a4 a5 a6 a7 a8 a9 a10 n hn hp
    cases n with
    | zero => omega
    | succ n =>
      show R (F (itr10 F n) a1 a2 a3 a4 a5 a6 a7 a8 a9 a10)
      rcases hs d (itr10 F n) a1 a2 a3 a4 a5 a6 a7 a8 a9 a10 hp with h1 | ⟨d2, b1, b2, b3, b4, b5, b6, b7, b8, b9, b10, h1, h2, h3⟩
      · exact h1
      · rw [h3]
        exact ih d2 h1 b1 b2 b3 b4 b5 b6 b7 b8 b9 b10 n (by omega) h2
/-- a loop over i from 0 on, the heap alone changes -/
theorem loop2 {β : Type} {F : (Int32 → Hp → Option β) → Int32 → Hp → Option β} {k : Hp → Option β} (n : Nat) (P : Nat → Hp → Prop) (hx : ∀ self h, P n h → F self (nI n) h = k h) (hs : ∀ self i h, i < n → P i h → ∃ h', F self (nI i) h = self (nI (i + 1)) h' ∧ P (i + 1) h') (h : Hp) (h0 : P 0 h) (hn : n ≤ 1000000) : ∃ h', itr2 F N0 0 h = k h' ∧ P n h' := by
  refine itr2_loop (F := F) (fun r => ∃ h', r = k h' ∧ P n h') (fun d a h => ∃ i, i ≤ n ∧ d = n - i ∧ a = nI i ∧ P i h) ?_ n 0 h N0 (by have := N0_big; omega) ⟨0, by omega, by omega, rfl, h0⟩
  intro d self a h ⟨i, h1, h2, h3, h4⟩
  subst h3
  by_cases hi : i = n
  · subst hi
    exact Or.inl ⟨h, hx self h h4, h4⟩
  · obtain ⟨h', e1, e2⟩ := hs self i h (by omega) h4
    exact Or.inr ⟨n - (i + 1), nI (i + 1), h', by omega, ⟨i + 1, by omega, rfl, rfl, e2⟩, e1⟩
/-- with one number beside it, ahead of i -/
theorem loop3 {A β : Type} {F : (A → Int32 → Hp → Option β) → A → Int32 → Hp → Option β} {k : A → Hp → Option β} (n : Nat) (P : Nat → A → Hp → Prop) (hx : ∀ self a h, P n a h → F self a (nI n) h = k a h) (hs : ∀ self i a h, i < n → P i a h → ∃ a' h', F self a (nI i) h = self a' (nI (i + 1)) h' ∧ P (i + 1) a' h') (a : A) (h : Hp) (h0 : P 0 a h) (hn : n ≤ 1000000) : ∃ a' h', itr3 F N0 a 0 h = k a' h' ∧ P n a' h' := by
  refine itr3_loop (F := F) (fun r => ∃ a' h', r = k a' h' ∧ P n a' h') (fun d a x h => ∃ i, i ≤ n ∧ d = n - i ∧ x = nI i ∧ P i a h) ?_ n a 0 h N0 (by have := N0_big; omega) ⟨0, by omega, by omega, rfl, h0⟩
  intro d self a x h ⟨i, h1, h2, h3, h4⟩
  subst h3
  by_cases hi : i = n
  · subst hi
    exact Or.inl ⟨a, h, hx self a h h4, h4⟩
  · obtain ⟨a', h', e1, e2⟩ := hs self i a h (by omega) h4
    exact Or.inr ⟨n - (i + 1), a', nI (i + 1), h', by omega, ⟨i + 1, by omega, rfl, rfl, e2⟩, e1⟩
