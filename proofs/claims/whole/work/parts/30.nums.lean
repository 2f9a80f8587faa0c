/-! ===== numbers ===== -/
theorem fa_lt (a b : Int32) : a < b ↔ a.toInt < b.toInt := Int32.lt_iff_toInt_lt
theorem fa_le (a b : Int32) : a ≤ b ↔ a.toInt ≤ b.toInt := Int32.le_iff_toInt_le
theorem fa_eq (a b : Int32) : a = b ↔ a.toInt = b.toInt := Int32.toInt_inj.symm
theorem fa_lit (n : Nat) : (OfNat.ofNat n : Int32) = nI n := rfl
theorem fa_litL (n : Nat) : (OfNat.ofNat n : Int64) = lN n := rfl
theorem fa_and (a b : Nat) : nI a &&& nI b = nI (a &&& b) := by
  apply Int32.toBitVec_inj.mp
  show BitVec.ofNat 32 a &&& BitVec.ofNat 32 b = BitVec.ofNat 32 (a &&& b)
  apply BitVec.eq_of_getLsbD_eq
  intro i hi
  simp [BitVec.getLsbD_ofNat, hi]
theorem fa_or (a b : Nat) : nI a ||| nI b = nI (a ||| b) := by
  apply Int32.toBitVec_inj.mp
  show BitVec.ofNat 32 a ||| BitVec.ofNat 32 b = BitVec.ofNat 32 (a ||| b)
  apply BitVec.eq_of_getLsbD_eq
  intro i hi
  simp [BitVec.getLsbD_ofNat, hi]
theorem fa_xor (a b : Nat) : nI a ^^^ nI b = nI (a ^^^ b) := by
  apply Int32.toBitVec_inj.mp
  show BitVec.ofNat 32 a ^^^ BitVec.ofNat 32 b = BitVec.ofNat 32 (a ^^^ b)
  apply BitVec.eq_of_getLsbD_eq
  intro i hi
  simp [BitVec.getLsbD_ofNat, hi]
/-- the place of a number in a row of n -/
theorem inb_nI {k n : Nat} (h : k < n) (hn : n < 2 ^ 31) : inb (nI k) n = true := by
  simp only [inb, Bool.and_eq_true, decide_eq_true_eq]
  exact ⟨nI_pos' (by omega), by rw [nI_clamp (by omega)]; exact h⟩
theorem nI_m1 {n : Nat} (h : 0 < n) : nI n + (-1) = nI (n - 1) := sb_m1 h
theorem nI_neg (n : Nat) (h : n < 2 ^ 31) : ¬ nI n < 0 := nI_pos h
theorem nI_m1lt {n : Nat} (h : n < 2 ^ 31) : ¬ nI n = -1 := by
  rw [fa_eq, nI_toInt h, show ((-1 : Int32)).toInt = -1 from rfl]
  omega
theorem m1_lt0 : ((-1 : Int32) < 0) := by decide
/-- a number between two: which one -/
theorem in_range {x : Int32} {a b : Nat} (ha : a < 2 ^ 31) (hb : b < 2 ^ 31) (h1 : ¬ x < nI a) (h2 : ¬ nI b < x) : ∃ j, a ≤ j ∧ j ≤ b ∧ x = nI j := by
  rw [fa_lt, nI_toInt ha] at h1
  rw [fa_lt, nI_toInt hb] at h2
  refine ⟨x.toInt.toNat, by omega, by omega, ?_⟩
  rw [fa_eq, nI_toInt (by omega)]
  omega
theorem out_lo {j a : Nat} (hj : j < 2 ^ 31) (ha : a < 2 ^ 31) (h : a ≤ j) : ¬ nI j < nI a := nI_nlt h hj
/-! ===== reading behind stores ===== -/
theorem sI1 (h : Hp) (a k : Nat) (v : Int32) (b j : Nat) : (sI h a k v).1 b j = if b = a ∧ j = k then v else h.1 b j := rfl
theorem sI2 (h : Hp) (a k : Nat) (v : Int32) : (sI h a k v).2 = h.2 := rfl
theorem sL1 (h : Hp) (a k : Nat) (v : Int64) : (sL h a k v).1 = h.1 := rfl
theorem sL2 (h : Hp) (a k : Nat) (v : Int64) (b j : Nat) : (sL h a k v).2.1 b j = if b = a ∧ j = k then v else h.2.1 b j := rfl
theorem sL3 (h : Hp) (a k : Nat) (v : Int64) : (sL h a k v).2.2 = h.2.2 := rfl
theorem sR1 (h : Hp) (a k v : Nat) : (sR h a k v).1 = h.1 := rfl
theorem sR2 (h : Hp) (a k v : Nat) : (sR h a k v).2.1 = h.2.1 := rfl
theorem sR3 (h : Hp) (a k v b j : Nat) : (sR h a k v).2.2 b j = if b = a ∧ j = k then v else h.2.2 b j := rfl
theorem sI_ne1 {h : Hp} {a k : Nat} {v : Int32} {b j : Nat} (hb : b ≠ a) : (sI h a k v).1 b j = h.1 b j := if_neg (fun z => hb z.1)
theorem sI_nk1 {h : Hp} {a k : Nat} {v : Int32} {b j : Nat} (hj : j ≠ k) : (sI h a k v).1 b j = h.1 b j := if_neg (fun z => hj z.2)
theorem sL_ne1 {h : Hp} {a k : Nat} {v : Int64} {b j : Nat} (hb : b ≠ a) : (sL h a k v).2.1 b j = h.2.1 b j := if_neg (fun z => hb z.1)
theorem sL_nk1 {h : Hp} {a k : Nat} {v : Int64} {b j : Nat} (hj : j ≠ k) : (sL h a k v).2.1 b j = h.2.1 b j := if_neg (fun z => hj z.2)
/-- the cells that are not in X are the same -/
def Same (X : List Nat) (h h' : Hp) : Prop := ∀ a, a ∉ X → h'.1 a = h.1 a ∧ h'.2.1 a = h.2.1 a ∧ h'.2.2 a = h.2.2 a
theorem Same.rf {X : List Nat} {h : Hp} : Same X h h := fun _ _ => ⟨rfl, rfl, rfl⟩
theorem Same.tr {X : List Nat} {h h1 h2 : Hp} (a : Same X h h1) (b : Same X h1 h2) : Same X h h2 := fun q hq => ⟨(b q hq).1.trans (a q hq).1, (b q hq).2.1.trans (a q hq).2.1, (b q hq).2.2.trans (a q hq).2.2⟩
theorem Same.mono {X Y : List Nat} {h h1 : Hp} (a : Same X h h1) (hXY : ∀ q, q ∈ X → q ∈ Y) : Same Y h h1 := fun q hq => a q (fun z => hq (hXY q z))
theorem Same.ofI {X : List Nat} {h : Hp} {a k : Nat} {v : Int32} (ha : a ∈ X) : Same X h (sI h a k v) := fun q hq => ⟨funext fun _ => sI_ne1 (fun z => hq (z ▸ ha)), rfl, rfl⟩
theorem Same.ofL {X : List Nat} {h : Hp} {a k : Nat} {v : Int64} (ha : a ∈ X) : Same X h (sL h a k v) := fun q hq => ⟨rfl, funext fun _ => sL_ne1 (fun z => hq (z ▸ ha)), rfl⟩
theorem sR_ne1 {h : Hp} {a k v b j : Nat} (hb : b ≠ a) : (sR h a k v).2.2 b j = h.2.2 b j := if_neg (fun z => hb z.1)
theorem cI_ne1 {h : Hp} {x i y j n b k : Nat} (hb : b ≠ y) : (cI h x i y j n).1 b k = h.1 b k := if_neg hb
theorem cL_ne1 {h : Hp} {x i y j n b k : Nat} (hb : b ≠ y) : (cL h x i y j n).2.1 b k = h.2.1 b k := if_neg hb
theorem cI_at {h : Hp} {x i y j n k : Nat} : (cI h x i y j n).1 y k = va_cpy (h.1 x) (h.1 y) i j n k := if_pos rfl
theorem cL_at {h : Hp} {x i y j n k : Nat} : (cL h x i y j n).2.1 y k = va_cpy (h.2.1 x) (h.2.1 y) i j n k := if_pos rfl
theorem Same.ofR {X : List Nat} {h : Hp} {a k v : Nat} (ha : a ∈ X) : Same X h (sR h a k v) := fun q hq => ⟨rfl, rfl, funext fun _ => sR_ne1 (fun z => hq (z ▸ ha))⟩
theorem Same.ofCI {X : List Nat} {h : Hp} {x i y j n : Nat} (ha : y ∈ X) : Same X h (cI h x i y j n) := fun q hq => ⟨funext fun _ => cI_ne1 (fun z => hq (z ▸ ha)), rfl, rfl⟩
theorem Same.ofCL {X : List Nat} {h : Hp} {x i y j n : Nat} (ha : y ∈ X) : Same X h (cL h x i y j n) := fun q hq => ⟨rfl, funext fun _ => cL_ne1 (fun z => hq (z ▸ ha)), rfl⟩
theorem bnd_s {α β : Type} {o : Option (α × Hp)} {x : α} {h : Hp} {k : α → Hp → Option β} (e : o = some (x, h)) : bnd o k = k x h := by rw [e]; rfl
theorem bnv_s {β : Type} {o : Option Hp} {h : Hp} {k : Hp → Option β} (e : o = some h) : bnv o k = k h := by rw [e]; rfl
theorem lt_s0 {α β : Type} (a : α) (f : α → β) : lt a f = f a := rfl
theorem N0_big : 1000000 ≤ N0 := by decide
/-- N0 turns are enough: for a loop that needs at most n -/
theorem N0_s (n : Nat) (h : n ≤ 1000000) : ∃ m, N0 = m + n + 1 := ⟨N0 - n - 1, by have := N0_big; unfold N0 at *; omega⟩
