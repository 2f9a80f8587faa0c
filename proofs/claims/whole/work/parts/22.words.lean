/-! ===== the words of the functions ===== -/
def lt {α β : Type} (a : α) (f : α → β) : β := f a
def bnd {α β : Type} (o : Option (α × Hp)) (k : α → Hp → Option β) : Option β := match o with
  | some (x, h) => k x h
  | none => none
def bnv {β : Type} (o : Option Hp) (k : Hp → Option β) : Option β := match o with
  | some h => k h
  | none => none
theorem bnd_e {α β : Type} {o : Option (α × Hp)} {k : α → Hp → Option β} {q : β} (hq : bnd o k = some q) : ∃ x h, o = some (x, h) ∧ k x h = some q := by
  match o, hq with
  | some (x, h), hq => exact ⟨x, h, rfl, hq⟩
theorem bnv_e {β : Type} {o : Option Hp} {k : Hp → Option β} {q : β} (hq : bnv o k = some q) : ∃ h, o = some h ∧ k h = some q := by
  match o, hq with
  | some h, hq => exact ⟨h, rfl, hq⟩
theorem gd {β : Type} {b : Bool} {A : Option β} {q : β} (hq : (if b = true then A else none) = some q) : b = true ∧ A = some q := by
  cases b with
  | true => exact ⟨rfl, hq⟩
  | false => cases hq
theorem ite_t {β : Type} {c : Prop} {D : Decidable c} {A B : Option β} {q : β} (hq : (@ite (Option β) c D A B) = some q) (hc : c) : A = some q := by rwa [if_pos hc] at hq
theorem ite_f {β : Type} {c : Prop} {D : Decidable c} {A B : Option β} {q : β} (hq : (@ite (Option β) c D A B) = some q) (hc : ¬ c) : B = some q := by rwa [if_neg hc] at hq
def N0 : Nat := 1000000000000000000000000000000
abbrev jshl (x y : Int32) : Int32 := x <<< (y &&& 31)
abbrev jshr (x y : Int32) : Int32 := x >>> (y &&& 31)
abbrev jushr (x y : Int32) : Int32 := (x.toUInt32 >>> (y.toUInt32 &&& Int32.toUInt32 31)).toInt32
abbrev jrem (x y : Int32) : Int32 := x - x / y * y
abbrev jlshl (x : Int64) (y : Int32) : Int64 := x <<< (y.toInt64 &&& 63)
abbrev jlshr (x : Int64) (y : Int32) : Int64 := x >>> (y.toInt64 &&& 63)
abbrev jlushr (x : Int64) (y : Int32) : Int64 := (x.toUInt64 >>> (y.toInt64.toUInt64 &&& Int64.toUInt64 63)).toInt64
abbrev jmax (x y : Int32) : Int32 := if x < y then y else x
abbrev jmin (x y : Int32) : Int32 := if y < x then y else x
abbrev jminL (x y : Int64) : Int64 := if y < x then y else x
def nz (y : Int32) : Bool := decide (¬ y = 0)
theorem nz_ne {y : Int32} (h : nz y = true) : ¬ y = 0 := of_decide_eq_true h
def isO (ci r : Nat) : Bool := match lay r with
  | some (.inl c) => c == ci
  | _ => false
theorem isO_lay {ci r : Nat} (h : isO ci r = true) : lay r = some (.inl ci) := by
  unfold isO at h
  split at h
  · rename_i c e
    rw [e, eq_of_beq h]
  · cases h
theorem aln_of {a ty n : Nat} (h : lay a = some (.inr (ty, n))) : lay a = some (.inr (ty, aln a)) := by
  unfold aln
  rw [h]
theorem inb_lt {i : Int32} {n : Nat} (h : inb i n = true) : i.toNatClampNeg < n := by
  simp only [inb, Bool.and_eq_true, decide_eq_true_eq] at h
  exact h.2
def cpOk (sp dp n : Int32) (n0 n1 : Nat) : Bool := decide (0 ≤ sp) && decide (0 ≤ dp) && decide (0 ≤ n) && decide (sp.toNatClampNeg + n.toNatClampNeg ≤ n0) && decide (dp.toNatClampNeg + n.toNatClampNeg ≤ n1)
theorem ne_toInt {x k : Int32} (h : ¬ x = k) : x.toInt ≠ k.toInt := fun e => h (Int32.toInt_inj.mp e)
def itr1 {A1 β : Type} (F : (A1 → Option β) → A1 → Option β) : Nat → A1 → Option β
  | 0, _ => none
  | n + 1, a1 => F (itr1 F n) a1
theorem itr1_ind {A1 β : Type} {F : (A1 → Option β) → A1 → Option β} {P : A1 → β → Prop} (hs : ∀ (self : A1 → Option β), (∀ (a1 : A1) (q : β), self a1 = some q → P a1 q) → ∀ (a1 : A1) (q : β), F self a1 = some q → P a1 q) : ∀ (n : Nat) (a1 : A1) (q : β), itr1 F n a1 = some q → P a1 q := by
  intro n
  induction n with
  | zero => intro a1 q hq; cases hq
  | succ n ih => intro a1 q hq; exact hs (itr1 F n) ih a1 q hq
def itr2 {A1 A2 β : Type} (F : (A1 → A2 → Option β) → A1 → A2 → Option β) : Nat → A1 → A2 → Option β
  | 0, _, _ => none
  | n + 1, a1, a2 => F (itr2 F n) a1 a2
theorem itr2_ind {A1 A2 β : Type} {F : (A1 → A2 → Option β) → A1 → A2 → Option β} {P : A1 → A2 → β → Prop} (hs : ∀ (self : A1 → A2 → Option β), (∀ (a1 : A1) (a2 : A2) (q : β), self a1 a2 = some q → P a1 a2 q) → ∀ (a1 : A1) (a2 : A2) (q : β), F self a1 a2 = some q → P a1 a2 q) : ∀ (n : Nat) (a1 : A1) (a2 : A2) (q : β), itr2 F n a1 a2 = some q → P a1 a2 q := by
  intro n
  induction n with
  | zero => intro a1 a2 q hq; cases hq
  | succ n ih => intro a1 a2 q hq; exact hs (itr2 F n) ih a1 a2 q hq
def itr3 {A1 A2 A3 β : Type} (F : (A1 → A2 → A3 → Option β) → A1 → A2 → A3 → Option β) : Nat → A1 → A2 → A3 → Option β
  | 0, _, _, _ => none
  | n + 1, a1, a2, a3 => F (itr3 F n) a1 a2 a3
theorem itr3_ind {A1 A2 A3 β : Type} {F : (A1 → A2 → A3 → Option β) → A1 → A2 → A3 → Option β} {P : A1 → A2 → A3 → β → Prop} (hs : ∀ (self : A1 → A2 → A3 → Option β), (∀ (a1 : A1) (a2 : A2) (a3 : A3) (q : β), self a1 a2 a3 = some q → P a1 a2 a3 q) → ∀ (a1 : A1) (a2 : A2) (a3 : A3) (q : β), F self a1 a2 a3 = some q → P a1 a2 a3 q) : ∀ (n : Nat) (a1 : A1) (a2 : A2) (a3 : A3) (q : β), itr3 F n a1 a2 a3 = some q → P a1 a2 a3 q := by
  intro n
  induction n with
  | zero => intro a1 a2 a3 q hq; cases hq
  | succ n ih => intro a1 a2 a3 q hq; exact hs (itr3 F n) ih a1 a2 a3 q hq
def itr4 {A1 A2 A3 A4 β : Type} (F : (A1 → A2 → A3 → A4 → Option β) → A1 → A2 → A3 → A4 → Option β) : Nat → A1 → A2 → A3 → A4 → Option β
  | 0, _, _, _, _ => none
  | n + 1, a1, a2, a3, a4 => F (itr4 F n) a1 a2 a3 a4
theorem itr4_ind {A1 A2 A3 A4 β : Type} {F : (A1 → A2 → A3 → A4 → Option β) → A1 → A2 → A3 → A4 → Option β} {P : A1 → A2 → A3 → A4 → β → Prop} (hs : ∀ (self : A1 → A2 → A3 → A4 → Option β), (∀ (a1 : A1) (a2 : A2) (a3 : A3) (a4 : A4) (q : β), self a1 a2 a3 a4 = some q → P a1 a2 a3 a4 q) → ∀ (a1 : A1) (a2 : A2) (a3 : A3) (a4 : A4) (q : β), F self a1 a2 a3 a4 = some q → P a1 a2 a3 a4 q) : ∀ (n : Nat) (a1 : A1) (a2 : A2) (a3 : A3) (a4 : A4) (q : β), itr4 F n a1 a2 a3 a4 = some q → P a1 a2 a3 a4 q := by
  intro n
  induction n with
  | zero => intro a1 a2 a3 a4 q hq; cases hq
  | succ n ih => intro a1 a2 a3 a4 q hq; exact hs (itr4 F n) ih a1 a2 a3 a4 q hq
def itr5 {A1 A2 A3 A4 A5 β : Type} (F : (A1 → A2 → A3 → A4 → A5 → Option β) → A1 → A2 → A3 → A4 → A5 → Option β) : Nat → A1 → A2 → A3 → A4 → A5 → Option β
  | 0, _, _, _, _, _ => none
  | n + 1, a1, a2, a3, a4, a5 => F (itr5 F n) a1 a2 a3 a4 a5
theorem itr5_ind {A1 A2 A3 A4 A5 β : Type} {F : (A1 → A2 → A3 → A4 → A5 → Option β) → A1 → A2 → A3 → A4 → A5 → Option β} {P : A1 → A2 → A3 → A4 → A5 → β → Prop} (hs : ∀ (self : A1 → A2 → A3 → A4 → A5 → Option β), (∀ (a1 : A1) (a2 : A2) (a3 : A3) (a4 : A4) (a5 : A5) (q : β), self a1 a2 a3 a4 a5 = some q → P a1 a2 a3 a4 a5 q) → ∀ (a1 : A1) (a2 : A2) (a3 : A3) (a4 : A4) (a5 : A5) (q : β), F self a1 a2 a3 a4 a5 = some q → P a1 a2 a3 a4 a5 q) : ∀ (n : Nat) (a1 : A1) (a2 : A2) (a3 : A3) (a4 : A4) (a5 : A5) (q : β), itr5 F n a1 a2 a3 a4 a5 = some q → P a1 a2 a3 a4 a5 q := by
  intro n
  induction n with
  | zero => intro a1 a2 a3 a4 a5 q hq; cases hq
  | succ n ih => intro a1 a2 a3 a4 a5 q hq; exact hs (itr5 F n) ih a1 a2 a3 a4 a5 q hq
def itr6 {A1 A2 A3 A4 A5 A6 β : Type} (F : (A1 → A2 → A3 → A4 → A5 → A6 → Option β) → A1 → A2 → A3 → A4 → A5 → A6 → Option β) : Nat → A1 → A2 → A3 → A4 → A5 → A6 → Option β
  | 0, _, _, _, _, _, _ => none
  | n + 1, a1, a2, a3, a4, a5, a6 => F (itr6 F n) a1 a2 a3 a4 a5 a6
theorem itr6_ind {A1 A2 A3 A4 A5 A6 β : Type} {F : (A1 → A2 → A3 → A4 → A5 → A6 → Option β) → A1 → A2 → A3 → A4 → A5 → A6 → Option β} {P : A1 → A2 → A3 → A4 → A5 → A6 → β → Prop} (hs : ∀ (self : A1 → A2 → A3 → A4 → A5 → A6 → Option β), (∀ (a1 : A1) (a2 : A2) (a3 : A3) (a4 : A4) (a5 : A5) (a6 : A6) (q : β), self a1 a2 a3 a4 a5 a6 = some q → P a1 a2 a3 a4 a5 a6 q) → ∀ (a1 : A1) (a2 : A2) (a3 : A3) (a4 : A4) (a5 : A5) (a6 : A6) (q : β), F self a1 a2 a3 a4 a5 a6 = some q → P a1 a2 a3 a4 a5 a6 q) : ∀ (n : Nat) (a1 : A1) (a2 : A2) (a3 : A3) (a4 : A4) (a5 : A5) (a6 : A6) (q : β), itr6 F n a1 a2 a3 a4 a5 a6 = some q → P a1 a2 a3 a4 a5 a6 q := by
  intro n
  induction n with
  | zero => intro a1 a2 a3 a4 a5 a6 q hq; cases hq
  | succ n ih => intro a1 a2 a3 a4 a5 a6 q hq; exact hs (itr6 F n) ih a1 a2 a3 a4 a5 a6 q hq
def itr7 {A1 A2 A3 A4 A5 A6 A7 β : Type} (F : (A1 → A2 → A3 → A4 → A5 → A6 → A7 → Option β) → A1 → A2 → A3 → A4 → A5 → A6 → A7 → Option β) : Nat → A1 → A2 → A3 → A4 → A5 → A6 → A7 → Option β
  | 0, _, _, _, _, _, _, _ => none
  | n + 1, a1, a2, a3, a4, a5, a6, a7 => F (itr7 F n) a1 a2 a3 a4 a5 a6 a7
theorem itr7_ind {A1 A2 A3 A4 A5 A6 A7 β : Type} {F : (A1 → A2 → A3 → A4 → A5 → A6 → A7 → Option β) → A1 → A2 → A3 → A4 → A5 → A6 → A7 → Option β} {P : A1 → A2 → A3 → A4 → A5 → A6 → A7 → β → Prop} (hs : ∀ (self : A1 → A2 → A3 → A4 → A5 → A6 → A7 → Option β), (∀ (a1 : A1) (a2 : A2) (a3 : A3) (a4 : A4) (a5 : A5) (a6 : A6) (a7 : A7) (q : β), self a1 a2 a3 a4 a5 a6 a7 = some q → P a1 a2 a3 a4 a5 a6 a7 q) → ∀ (a1 : A1) (a2 : A2) (a3 : A3) (a4 : A4) (a5 : A5) (a6 : A6) (a7 : A7) (q : β), F self a1 a2 a3 a4 a5 a6 a7 = some q → P a1 a2 a3 a4 a5 a6 a7 q) : ∀ (n : Nat) (a1 : A1) (a2 : A2) (a3 : A3) (a4 : A4) (a5 : A5) (a6 : A6) (a7 : A7) (q : β), itr7 F n a1 a2 a3 a4 a5 a6 a7 = some q → P a1 a2 a3 a4 a5 a6 a7 q := by
  intro n
  induction n with
  | zero => intro a1 a2 a3 a4 a5 a6 a7 q hq; cases hq
  | succ n ih => intro a1 a2 a3 a4 a5 a6 a7 q hq; exact hs (itr7 F n) ih a1 a2 a3 a4 a5 a6 a7 q hq
def itr8 {A1 A2 A3 A4 A5 A6 A7 A8 β : Type} (F : (A1 → A2 → A3 → A4 → A5 → A6 → A7 → A8 → Option β) → A1 → A2 → A3 → A4 → A5 → A6 → A7 → A8 → Option β) : Nat → A1 → A2 → A3 → A4 → A5 → A6 → A7 → A8 → Option β
  | 0, _, _, _, _, _, _, _, _ => none
  | n + 1, a1, a2, a3, a4, a5, a6, a7, a8 => F (itr8 F n) a1 a2 a3 a4 a5 a6 a7 a8
theorem itr8_ind {A1 A2 A3 A4 A5 A6 A7 A8 β : Type} {F : (A1 → A2 → A3 → A4 → A5 → A6 → A7 → A8 → Option β) → A1 → A2 → A3 → A4 → A5 → A6 → A7 → A8 → Option β} {P : A1 → A2 → A3 → A4 → A5 → A6 → A7 → A8 → β → Prop} (hs : ∀ (self : A1 → A2 → A3 → A4 → A5 → A6 → A7 → A8 → Option β), (∀ (a1 : A1) (a2 : A2) (a3 : A3) (a4 : A4) (a5 : A5) (a6 : A6) (a7 : A7) (a8 : A8) (q : β), self a1 a2 a3 a4 a5 a6 a7 a8 = some q → P a1 a2 a3 a4 a5 a6 a7 a8 q) → ∀ (a1 : A1) (a2 : A2) (a3 : A3) (a4 : A4) (a5 : A5) (a6 : A6) (a7 : A7) (a8 : A8) (q : β), F self a1 a2 a3 a4 a5 a6 a7 a8 = some q → P a1 a2 a3 a4 a5 a6 a7 a8 q) : ∀ (n : Nat) (a1 : A1) (a2 : A2) (a3 : A3) (a4 : A4) (a5 : A5) (a6 : A6) (a7 : A7) (a8 : A8) (q : β), itr8 F n a1 a2 a3 a4 a5 a6 a7 a8 = some q → P a1 a2 a3 a4 a5 a6 a7 a8 q := by
  intro n
  induction n with
  | zero => intro a1 a2 a3 a4 a5 a6 a7 a8 q hq; cases hq
  | succ n ih => intro a1 a2 a3 a4 a5 a6 a7 a8 q hq; exact hs (itr8 F n) ih a1 a2 a3 a4 a5 a6 a7 a8 q hq
def itr9 {A1 A2 A3 A4 A5 A6 A7 A8 A9 β : Type} (F : (A1 → A2 → A3 → A4 → A5 → A6 → A7 → A8 → A9 → Option β) → A1 → A2 → A3 → A4 → A5 → A6 → A7 → A8 → A9 → Option β) : Nat → A1 → A2 → A3 → A4 → A5 → A6 → A7 → A8 → A9 → Option β
  | 0, _, _, _, _, _, _, _, _, _ => none
  | n + 1, a1, a2, a3, a4, a5, a6, a7, a8, a9 => F (itr9 F n) a1 a2 a3 a4 a5 a6 a7 a8 a9
theorem itr9_ind {A1 A2 A3 A4 A5 A6 A7 A8 A9 β : Type} {F : (A1 → A2 → A3 → A4 → A5 → A6 → A7 → A8 → A9 → Option β) → A1 → A2 → A3 → A4 → A5 → A6 → A7 → A8 → A9 → Option β} {P : A1 → A2 → A3 → A4 → A5 → A6 → A7 → A8 → A9 → β → Prop} (hs : ∀ (self : A1 → A2 → A3 → A4 → A5 → A6 → A7 → A8 → A9 → Option β), (∀ (a1 : A1) (a2 : A2) (a3 : A3) (a4 : A4) (a5 : A5) (a6 : A6) (a7 : A7) (a8 : A8) (a9 : A9) (q : β), self a1 a2 a3 a4 a5 a6 a7 a8 a9 = some q → P a1 a2 a3 a4 a5 a6 a7 a8 a9 q) → ∀ (a1 : A1) (a2 : A2) (a3 : A3) (a4 : A4) (a5 : A5) (a6 : A6) (a7 : A7) (a8 : A8) (a9 : A9) (q : β), F self a1 a2 a3 a4 a5 a6 a7 a8 a9 = some q → P a1 a2 a3 a4 a5 a6 a7 a8 a9 q) : ∀ (n : Nat) (a1 : A1) (a2 : A2) (a3 : A3) (a4 : A4) (a5 : A5) (a6 : A6) (a7 : A7) (a8 : A8) (a9 : A9) (q : β), itr9 F n a1 a2 a3 a4 a5 a6 a7 a8 a9 = some q → P a1 a2 a3 a4 a5 a6 a7 a8 a9 q := by
  intro n
  induction n with
  | zero => intro a1 a2 a3 a4 a5 a6 a7 a8 a9 q hq; cases hq
  | succ n ih => intro a1 a2 a3 a4 a5 a6 a7 a8 a9 q hq; exact hs (itr9 F n) ih a1 a2 a3 a4 a5 a6 a7 a8 a9 q hq
def itr10 {A1 A2 A3 A4 A5 A6 A7 A8 A9 A10 β : Type} (F : (A1 → A2 → A3 → A4 → A5 → A6 → A7 → A8 → A9 → A10 → Option β) → A1 → A2 → A3 → A4 → A5 → A6 → A7 → A8 → A9 → A10 → Option β) : Nat → A1 → A2 → A3 → A4 → A5 → A6 → A7 → A8 → A9 → A10 → Option β
  | 0, _, _, _, _, _, _, _, _, _, _ => none
  | n + 1, a1, a2, a3, a4, a5, a6, a7, a8, a9, a10 => F (itr10 F n) a1 a2 a3 a4 a5 a6 a7 a8 a9 a10
theorem itr10_ind {A1 A2 A3 A4 A5 A6 A7 A8 A9 A10 β : Type} {F : (A1 → A2 → A3 → A4 → A5 → A6 → A7 → A8 → A9 → A10 → Option β) → A1 → A2 → A3 → A4 → A5 → A6 → A7 → A8 → A9 → A10 → Option β} {P : A1 → A2 → A3 → A4 → A5 → A6 → A7 → A8 → A9 → A10 → β → Prop} (hs : ∀ (self : A1 → A2 → A3 → A4 → A5 → A6 → A7 → A8 → A9 → A10 → Option β), (∀ (a1 : A1) (a2 : A2) (a3 : A3) (a4 : A4) (a5 : A5) (a6 : A6) (a7 : A7) (a8 : A8) (a9 : A9) (a10 : A10) (q : β), self a1 a2 a3 a4 a5 a6 a7 a8 a9 a10 = some q → P a1 a2 a3 a4 a5 a6 a7 a8 a9 a10 q) → ∀ (a1 : A1) (a2 : A2) (a3 : A3) (a4 : A4) (a5 : A5) (a6 : A6) (a7 : A7) (a8 : A8) (a9 : A9) (a10 : A10) (q : β), F self a1 a2 a3 a4 a5 a6 a7 a8 a9 a10 = some q → P a1 a2 a3 a4 a5 a6 a7 a8 a9 a10 q) : ∀ (n : Nat) (a1 : A1) (a2 : A2) (a3 : A3) (a4 : A4) (a5 : A5) (a6 : A6) (a7 : A7) (a8 : A8) (a9 : A9) (a10 : A10) (q : β), itr10 F n a1 a2 a3 a4 a5 a6 a7 a8 a9 a10 = some q → P a1 a2 a3 a4 a5 a6 a7 a8 a9 a10 q := by
  intro n
  induction n with
  | zero => intro a1 a2 a3 a4 a5 a6 a7 a8 a9 a10 q hq; cases hq
  | succ n ih => intro a1 a2 a3 a4 a5 a6 a7 a8 a9 a10 q hq; exact hs (itr10 F n) ih a1 a2 a3 a4 a5 a6 a7 a8 a9 a10 q hq
def itr11 {A1 A2 A3 A4 A5 A6 A7 A8 A9 A10 A11 β : Type} (F : (A1 → A2 → A3 → A4 → A5 → A6 → A7 → A8 → A9 → A10 → A11 → Option β) → A1 → A2 → A3 → A4 → A5 → A6 → A7 → A8 → A9 → A10 → A11 → Option β) : Nat → A1 → A2 → A3 → A4 → A5 → A6 → A7 → A8 → A9 → A10 → A11 → Option β
  | 0, _, _, _, _, _, _, _, _, _, _, _ => none
  | n + 1, a1, a2, a3, a4, a5, a6, a7, a8, a9, a10, a11 => F (itr11 F n) a1 a2 a3 a4 a5 a6 a7 a8 a9 a10 a11
theorem itr11_ind {A1 A2 A3 A4 A5 A6 A7 A8 A9 A10 A11 β : Type} {F : (A1 → A2 → A3 → A4 → A5 → A6 → A7 → A8 → A9 → A10 → A11 → Option β) → A1 → A2 → A3 → A4 → A5 → A6 → A7 → A8 → A9 → A10 → A11 → Option β} {P : A1 → A2 → A3 → A4 → A5 → A6 → A7 → A8 → A9 → A10 → A11 → β → Prop} (hs : ∀ (self : A1 → A2 → A3 → A4 → A5 → A6 → A7 → A8 → A9 → A10 → A11 → Option β), (∀ (a1 : A1) (a2 : A2) (a3 : A3) (a4 : A4) (a5 : A5) (a6 : A6) (a7 : A7) (a8 : A8) (a9 : A9) (a10 : A10) (a11 : A11) (q : β), self a1 a2 a3 a4 a5 a6 a7 a8 a9 a10 a11 = some q → P a1 a2 a3 a4 a5 a6 a7 a8 a9 a10 a11 q) → ∀ (a1 : A1) (a2 : A2) (a3 : A3) (a4 : A4) (a5 : A5) (a6 : A6) (a7 : A7) (a8 : A8) (a9 : A9) (a10 : A10) (a11 : A11) (q : β), F self a1 a2 a3 a4 a5 a6 a7 a8 a9 a10 a11 = some q → P a1 a2 a3 a4 a5 a6 a7 a8 a9 a10 a11 q) : ∀ (n : Nat) (a1 : A1) (a2 : A2) (a3 : A3) (a4 : A4) (a5 : A5) (a6 : A6) (a7 : A7) (a8 : A8) (a9 : A9) (a10 : A10) (a11 : A11) (q : β), itr11 F n a1 a2 a3 a4 a5 a6 a7 a8 a9 a10 a11 = some q → P a1 a2 a3 a4 a5 a6 a7 a8 a9 a10 a11 q := by
  intro n
  induction n with
  | zero => intro a1 a2 a3 a4 a5 a6 a7 a8 a9 a10 a11 q hq; cases hq
  | succ n ih => intro a1 a2 a3 a4 a5 a6 a7 a8 a9 a10 a11 q hq; exact hs (itr11 F n) ih a1 a2 a3 a4 a5 a6 a7 a8 a9 a10 a11 q hq
def itr12 {A1 A2 A3 A4 A5 A6 A7 A8 A9 A10 A11 A12 β : Type} (F : (A1 → A2 → A3 → A4 → A5 → A6 → A7 → A8 → A9 → A10 → A11 → A12 → Option β) → A1 → A2 → A3 → A4 → A5 → A6 → A7 → A8 → A9 → A10 → A11 → A12 → Option β) : Nat → A1 → A2 → A3 → A4 → A5 → A6 → A7 → A8 → A9 → A10 → A11 → A12 → Option β
  | 0, _, _, _, _, _, _, _, _, _, _, _, _ => none
  | n + 1, a1, a2, a3, a4, a5, a6, a7, a8, a9, a10, a11, a12 => F (itr12 F n) a1 a2 a3 a4 a5 a6 a7 a8 a9 a10 a11 a12
theorem itr12_ind {A1 A2 A3 A4 A5 A6 A7 A8 A9 A10 A11 A12 β : Type} {F : (A1 → A2 → A3 → A4 → A5 → A6 → A7 → A8 → A9 → A10 → A11 → A12 → Option β) → A1 → A2 → A3 → A4 → A5 → A6 → A7 → A8 → A9 → A10 → A11 → A12 → Option β} {P : A1 → A2 → A3 → A4 → A5 → A6 → A7 → A8 → A9 → A10 → A11 → A12 → β → Prop} (hs : ∀ (self : A1 → A2 → A3 → A4 → A5 → A6 → A7 → A8 → A9 → A10 → A11 → A12 → Option β), (∀ (a1 : A1) (a2 : A2) (a3 : A3) (a4 : A4) (a5 : A5) (a6 : A6) (a7 : A7) (a8 : A8) (a9 : A9) (a10 : A10) (a11 : A11) (a12 : A12) (q : β), self a1 a2 a3 a4 a5 a6 a7 a8 a9 a10 a11 a12 = some q → P a1 a2 a3 a4 a5 a6 a7 a8 a9 a10 a11 a12 q) → ∀ (a1 : A1) (a2 : A2) (a3 : A3) (a4 : A4) (a5 : A5) (a6 : A6) (a7 : A7) (a8 : A8) (a9 : A9) (a10 : A10) (a11 : A11) (a12 : A12) (q : β), F self a1 a2 a3 a4 a5 a6 a7 a8 a9 a10 a11 a12 = some q → P a1 a2 a3 a4 a5 a6 a7 a8 a9 a10 a11 a12 q) : ∀ (n : Nat) (a1 : A1) (a2 : A2) (a3 : A3) (a4 : A4) (a5 : A5) (a6 : A6) (a7 : A7) (a8 : A8) (a9 : A9) (a10 : A10) (a11 : A11) (a12 : A12) (q : β), itr12 F n a1 a2 a3 a4 a5 a6 a7 a8 a9 a10 a11 a12 = some q → P a1 a2 a3 a4 a5 a6 a7 a8 a9 a10 a11 a12 q := by
  intro n
  induction n with
  | zero => intro a1 a2 a3 a4 a5 a6 a7 a8 a9 a10 a11 a12 q hq; cases hq
  | succ n ih => intro a1 a2 a3 a4 a5 a6 a7 a8 a9 a10 a11 a12 q hq; exact hs (itr12 F n) ih a1 a2 a3 a4 a5 a6 a7 a8 a9 a10 a11 a12 q hq
def itr13 {A1 A2 A3 A4 A5 A6 A7 A8 A9 A10 A11 A12 A13 β : Type} (F : (A1 → A2 → A3 → A4 → A5 → A6 → A7 → A8 → A9 → A10 → A11 → A12 → A13 → Option β) → A1 → A2 → A3 → A4 → A5 → A6 → A7 → A8 → A9 → A10 → A11 → A12 → A13 → Option β) : Nat → A1 → A2 → A3 → A4 → A5 → A6 → A7 → A8 → A9 → A10 → A11 → A12 → A13 → Option β
  | 0, _, _, _, _, _, _, _, _, _, _, _, _, _ => none
  | n + 1, a1, a2, a3, a4, a5, a6, a7, a8, a9, a10, a11, a12, a13 => F (itr13 F n) a1 a2 a3 a4 a5 a6 a7 a8 a9 a10 a11 a12 a13
theorem itr13_ind {A1 A2 A3 A4 A5 A6 A7 A8 A9 A10 A11 A12 A13 β : Type} {F : (A1 → A2 → A3 → A4 → A5 → A6 → A7 → A8 → A9 → A10 → A11 → A12 → A13 → Option β) → A1 → A2 → A3 → A4 → A5 → A6 → A7 → A8 → A9 → A10 → A11 → A12 → A13 → Option β} {P : A1 → A2 → A3 → A4 → A5 → A6 → A7 → A8 → A9 → A10 → A11 → A12 → A13 → β → Prop} (hs : ∀ (self : A1 → A2 → A3 → A4 → A5 → A6 → A7 → A8 → A9 → A10 → A11 → A12 → A13 → Option β), (∀ (a1 : A1) (a2 : A2) (a3 : A3) (a4 : A4) (a5 : A5) (a6 : A6) (a7 : A7) (a8 : A8) (a9 : A9) (a10 : A10) (a11 : A11) (a12 : A12) (a13 : A13) (q : β), self a1 a2 a3 a4 a5 a6 a7 a8 a9 a10 a11 a12 a13 = some q → P a1 a2 a3 a4 a5 a6 a7 a8 a9 a10 a11 a12 a13 q) → ∀ (a1 : A1) (a2 : A2) (a3 : A3) (a4 : A4) (a5 : A5) (a6 : A6) (a7 : A7) (a8 : A8) (a9 : A9) (a10 : A10) (a11 : A11) (a12 : A12) (a13 : A13) (q : β), F self a1 a2 a3 a4 a5 a6 a7 a8 a9 a10 a11 a12 a13 = some q → P a1 a2 a3 a4 a5 a6 a7 a8 a9 a10 a11 a12 a13 q) : ∀ (n : Nat) (a1 : A1) (a2 : A2) (a3 : A3) (a4 : A4) (a5 : A5) (a6 : A6) (a7 : A7) (a8 : A8) (a9 : A9) (a10 : A10) (a11 : A11) (a12 : A12) (a13 : A13) (q : β), itr13 F n a1 a2 a3 a4 a5 a6 a7 a8 a9 a10 a11 a12 a13 = some q → P a1 a2 a3 a4 a5 a6 a7 a8 a9 a10 a11 a12 a13 q := by
  intro n
  induction n with
  | zero => intro a1 a2 a3 a4 a5 a6 a7 a8 a9 a10 a11 a12 a13 q hq; cases hq
  | succ n ih => intro a1 a2 a3 a4 a5 a6 a7 a8 a9 a10 a11 a12 a13 q hq; exact hs (itr13 F n) ih a1 a2 a3 a4 a5 a6 a7 a8 a9 a10 a11 a12 a13 q hq
def itr14 {A1 A2 A3 A4 A5 A6 A7 A8 A9 A10 A11 A12 A13 A14 β : Type} (F : (A1 → A2 → A3 → A4 → A5 → A6 → A7 → A8 → A9 → A10 → A11 → A12 → A13 → A14 → Option β) → A1 → A2 → A3 → A4 → A5 → A6 → A7 → A8 → A9 → A10 → A11 → A12 → A13 → A14 → Option β) : Nat → A1 → A2 → A3 → A4 → A5 → A6 → A7 → A8 → A9 → A10 → A11 → A12 → A13 → A14 → Option β
  | 0, _, _, _, _, _, _, _, _, _, _, _, _, _, _ => none
  | n + 1, a1, a2, a3, a4, a5, a6, a7, a8, a9, a10, a11, a12, a13, a14 => F (itr14 F n) a1 a2 a3 a4 a5 a6 a7 a8 a9 a10 a11 a12 a13 a14
theorem itr14_ind {A1 A2 A3 A4 A5 A6 A7 A8 A9 A10 A11 A12 A13 A14 β : Type} {F : (A1 → A2 → A3 → A4 → A5 → A6 → A7 → A8 → A9 → A10 → A11 → A12 → A13 → A14 → Option β) → A1 → A2 → A3 → A4 → A5 → A6 → A7 → A8 → A9 → A10 → A11 → A12 → A13 → A14 → Option β} {P : A1 → A2 → A3 → A4 → A5 → A6 → A7 → A8 → A9 → A10 → A11 → A12 → A13 → A14 → β → Prop} (hs : ∀ (self : A1 → A2 → A3 → A4 → A5 → A6 → A7 → A8 → A9 → A10 → A11 → A12 → A13 → A14 → Option β), (∀ (a1 : A1) (a2 : A2) (a3 : A3) (a4 : A4) (a5 : A5) (a6 : A6) (a7 : A7) (a8 : A8) (a9 : A9) (a10 : A10) (a11 : A11) (a12 : A12) (a13 : A13) (a14 : A14) (q : β), self a1 a2 a3 a4 a5 a6 a7 a8 a9 a10 a11 a12 a13 a14 = some q → P a1 a2 a3 a4 a5 a6 a7 a8 a9 a10 a11 a12 a13 a14 q) → ∀ (a1 : A1) (a2 : A2) (a3 : A3) (a4 : A4) (a5 : A5) (a6 : A6) (a7 : A7) (a8 : A8) (a9 : A9) (a10 : A10) (a11 : A11) (a12 : A12) (a13 : A13) (a14 : A14) (q : β), F self a1 a2 a3 a4 a5 a6 a7 a8 a9 a10 a11 a12 a13 a14 = some q → P a1 a2 a3 a4 a5 a6 a7 a8 a9 a10 a11 a12 a13 a14 q) : ∀ (n : Nat) (a1 : A1) (a2 : A2) (a3 : A3) (a4 : A4) (a5 : A5) (a6 : A6) (a7 : A7) (a8 : A8) (a9 : A9) (a10 : A10) (a11 : A11) (a12 : A12) (a13 : A13) (a14 : A14) (q : β), itr14 F n a1 a2 a3 a4 a5 a6 a7 a8 a9 a10 a11 a12 a13 a14 = some q → P a1 a2 a3 a4 a5 a6 a7 a8 a9 a10 a11 a12 a13 a14 q := by
  intro n
  induction n with
  | zero => intro a1 a2 a3 a4 a5 a6 a7 a8 a9 a10 a11 a12 a13 a14 q hq; cases hq
  | succ n ih => intro a1 a2 a3 a4 a5 a6 a7 a8 a9 a10 a11 a12 a13 a14 q hq; exact hs (itr14 F n) ih a1 a2 a3 a4 a5 a6 a7 a8 a9 a10 a11 a12 a13 a14 q hq
def itr15 {A1 A2 A3 A4 A5 A6 A7 A8 A9 A10 A11 A12 A13 A14 A15 β : Type} (F : (A1 → A2 → A3 → A4 → A5 → A6 → A7 → A8 → A9 → A10 → A11 → A12 → A13 → A14 → A15 → Option β) → A1 → A2 → A3 → A4 → A5 → A6 → A7 → A8 → A9 → A10 → A11 → A12 → A13 → A14 → A15 → Option β) : Nat → A1 → A2 → A3 → A4 → A5 → A6 → A7 → A8 → A9 → A10 → A11 → A12 → A13 → A14 → A15 → Option β
  | 0, _, _, _, _, _, _, _, _, _, _, _, _, _, _, _ => none
  | n + 1, a1, a2, a3, a4, a5, a6, a7, a8, a9, a10, a11, a12, a13, a14, a15 => F (itr15 F n) a1 a2 a3 a4 a5 a6 a7 a8 a9 a10 a11 a12 a13 a14 a15
theorem itr15_ind {A1 A2 A3 A4 A5 A6 A7 A8 A9 A10 A11 A12 A13 A14 A15 β : Type} {F : (A1 → A2 → A3 → A4 → A5 → A6 → A7 → A8 → A9 → A10 → A11 → A12 → A13 → A14 → A15 → Option β) → A1 → A2 → A3 → A4 → A5 → A6 → A7 → A8 → A9 → A10 → A11 → A12 → A13 → A14 → A15 → Option β} {P : A1 → A2 → A3 → A4 → A5 → A6 → A7 → A8 → A9 → A10 → A11 → A12 → A13 → A14 → A15 → β → Prop} (hs : ∀ (self : A1 → A2 → A3 → A4 → A5 → A6 → A7 → A8 → A9 → A10 → A11 → A12 → A13 → A14 → A15 → Option β), (∀ (a1 : A1) (a2 : A2) (a3 : A3) (a4 : A4) (a5 : A5) (a6 : A6) (a7 : A7) (a8 : A8) (a9 : A9) (a10 : A10) (a11 : A11) (a12 : A12) (a13 : A13) (a14 : A14) (a15 : A15) (q : β), self a1 a2 a3 a4 a5 a6 a7 a8 a9 a10 a11 a12 a13 a14 a15 = some q → P a1 a2 a3 a4 a5 a6 a7 a8 a9 a10 a11 a12 a13 a14 a15 q) → ∀ (a1 : A1) (a2 : A2) (a3 : A3) (a4 : A4) (a5 : A5) (a6 : A6) (a7 : A7) (a8 : A8) (a9 : A9) (a10 : A10) (a11 : A11) (a12 : A12) (a13 : A13) (a14 : A14) (a15 : A15) (q : β), F self a1 a2 a3 a4 a5 a6 a7 a8 a9 a10 a11 a12 a13 a14 a15 = some q → P a1 a2 a3 a4 a5 a6 a7 a8 a9 a10 a11 a12 a13 a14 a15 q) : ∀ (n : Nat) (a1 : A1) (a2 : A2) (a3 : A3) (a4 : A4) (a5 : A5) (a6 : A6) (a7 : A7) (a8 : A8) (a9 : A9) (a10 : A10) (a11 : A11) (a12 : A12) (a13 : A13) (a14 : A14) (a15 : A15) (q : β), itr15 F n a1 a2 a3 a4 a5 a6 a7 a8 a9 a10 a11 a12 a13 a14 a15 = some q → P a1 a2 a3 a4 a5 a6 a7 a8 a9 a10 a11 a12 a13 a14 a15 q := by
  intro n
  induction n with
  | zero => intro a1 a2 a3 a4 a5 a6 a7 a8 a9 a10 a11 a12 a13 a14 a15 q hq; cases hq
  | succ n ih => intro a1 a2 a3 a4 a5 a6 a7 a8 a9 a10 a11 a12 a13 a14 a15 q hq; exact hs (itr15 F n) ih a1 a2 a3 a4 a5 a6 a7 a8 a9 a10 a11 a12 a13 a14 a15 q hq
section J2
variable {κ : Kx} {cc : ByteArray} {nL : Nat} {ret : Option FieldType} {own : String} {lv pc : Nat} {L L' : List (Nat × cv)} {st : List cv} {h : Hp} {r : Option cv × Hp}
theorem J_ltH {β : Type} {e : Hp} {f : Hp → Option β} {q : β} (hq : lt e f = some q) (K : ∀ x, f x = some q → J κ pc L st x r) : J κ pc L st e r := K e hq
theorem J_ltI {β : Type} {e : Int32} {f : Int32 → Option β} {q : β} (hq : lt e f = some q) (K : ∀ x, f x = some q → J κ pc L (.inl x :: st) h r) : J κ pc L (.inl e :: st) h r := K e hq
theorem J_ltL {β : Type} {e : Int64} {f : Int64 → Option β} {q : β} (hq : lt e f = some q) (K : ∀ x, f x = some q → J κ pc L (.inr (.inl x) :: st) h r) : J κ pc L (.inr (.inl e) :: st) h r := K e hq
theorem J_ltR {β : Type} {e : Nat} {f : Nat → Option β} {q : β} (hq : lt e f = some q) (K : ∀ x, f x = some q → J κ pc L (.inr (.inr x) :: st) h r) : J κ pc L (.inr (.inr e) :: st) h r := K e hq
theorem w_min : Cond.static Lib.Math.min.name ∈ tbl ∧ Cond.initialized "java/lang/Math" ∈ tbl ∧ Cond.code Lib.Math.min.name Lib.Math.min.code 2 (some .int) ∈ tbl := by decide +kernel
theorem w_max : Cond.static Lib.Math.max.name ∈ tbl ∧ Cond.code Lib.Math.max.name Lib.Math.max.code 2 (some .int) ∈ tbl := by decide +kernel
theorem w_minL : Cond.static Lib.MathLoose.min_long.x ∈ tbl ∧ Cond.code Lib.MathLoose.min_long.x Lib.MathLoose.min_long.code 4 (some .long) ∈ tbl := by decide +kernel
theorem J_mmin (X : OK κ cc nL ret own (lv + 1)) {idx : Nat} {x y : Int32} (hm : Cond.methodLink own idx Lib.Math.min.name ∈ tbl) (hd : decode cc pc = .ok (.invokestatic idx, 3)) (hct : ctS st ≤ 8) (K : J κ (pc + 3) L (.inl (jmin x y) :: st) h r) : J κ pc L (.inl y :: .inl x :: st) h r := by
  obtain ⟨p, l, e, R, s, m, args, below, meth, c, w⟩ := κ
  obtain ⟨hx, hb, hml, hr, hown, hts, hlk, hfr, hlo, hw, hK, hC, hN⟩ := X
  intro H locs ls hP hS hl
  exact va_mmin hx hb hl.1.symm hown (hts _ hm) (hts _ w_min.1) (hts _ w_min.2.1) (hts _ w_min.2.2) (by omega) (by rw [ctS_ok]; omega) (Nat.zero_le _) (Nat.zero_le _) hd (K H locs ls hP hS hl)
theorem J_mmax (X : OK κ cc nL ret own (lv + 1)) {idx : Nat} {x y : Int32} (hm : Cond.methodLink own idx Lib.Math.max.name ∈ tbl) (hd : decode cc pc = .ok (.invokestatic idx, 3)) (hct : ctS st ≤ 8) (K : J κ (pc + 3) L (.inl (jmax x y) :: st) h r) : J κ pc L (.inl y :: .inl x :: st) h r := by
  obtain ⟨p, l, e, R, s, m, args, below, meth, c, w⟩ := κ
  obtain ⟨hx, hb, hml, hr, hown, hts, hlk, hfr, hlo, hw, hK, hC, hN⟩ := X
  intro H locs ls hP hS hl
  exact va_mmax hx hb hl.1.symm hown (hts _ hm) (hts _ w_max.1) (hts _ w_min.2.1) (hts _ w_max.2) (by omega) (by rw [ctS_ok]; omega) (Nat.zero_le _) (Nat.zero_le _) hd (K H locs ls hP hS hl)
theorem J_mminL (X : OK κ cc nL ret own (lv + 1)) {idx : Nat} {x y : Int64} (hm : Cond.methodLink own idx Lib.MathLoose.min_long.x ∈ tbl) (hd : decode cc pc = .ok (.invokestatic idx, 3)) (hct : ctS st ≤ 8) (K : J κ (pc + 3) L (.inr (.inl (jminL x y)) :: st) h r) : J κ pc L (.inr (.inl y) :: .inr (.inl x) :: st) h r := by
  obtain ⟨p, l, e, R, s, m, args, below, meth, c, w⟩ := κ
  obtain ⟨hx, hb, hml, hr, hown, hts, hlk, hfr, hlo, hw, hK, hC, hN⟩ := X
  intro H locs ls hP hS hl
  exact va_mmin_long hx hb hl.1.symm hown (hts _ hm) (hts _ w_minL.1) (hts _ w_min.2.1) (hts _ w_minL.2) (by omega) (by rw [ctS_ok]; omega) (Nat.zero_le _) (Nat.zero_le _) hd (K H locs ls hP hS hl)
theorem w_cpy : Cond.native arraycopyName ∈ tbl ∧ Cond.static arraycopyName ∈ tbl ∧ Cond.initialized "java/lang/System" ∈ tbl := by decide +kernel
theorem cpOk_s {sp dp n : Int32} {n0 n1 : Nat} (h : cpOk sp dp n n0 n1 = true) : ¬ sp < 0 ∧ ¬ dp < 0 ∧ ¬ n < 0 ∧ sp.toNatClampNeg + n.toNatClampNeg ≤ n0 ∧ dp.toNatClampNeg + n.toNatClampNeg ≤ n1 := by
  simp only [cpOk, Bool.and_eq_true, decide_eq_true_eq] at h
  obtain ⟨⟨⟨⟨h1, h2⟩, h3⟩, h4⟩, h5⟩ := h
  exact ⟨Int32.not_lt.mpr h1, Int32.not_lt.mpr h2, Int32.not_lt.mpr h3, h4, h5⟩
theorem J_copyI (X : OK κ cc nL ret own (lv + 1)) {idx a0 a1 n0 n1 : Nat} {sp dp n : Int32} (hm : Cond.methodLink own idx arraycopyName ∈ tbl) (ha0 : lay a0 = some (.inr (0, n0))) (ha1 : lay a1 = some (.inr (0, n1))) (hg : cpOk sp dp n n0 n1 = true) (hd : decode cc pc = .ok (.invokestatic idx, 3)) (hct : ctS st ≤ 8) (K : J κ (pc + 3) L st (cI h a0 sp.toNatClampNeg a1 dp.toNatClampNeg n.toNatClampNeg) r) : J κ pc L (.inl n :: .inl dp :: .inr (.inr a1) :: .inl sp :: .inr (.inr a0) :: st) h r := by
  obtain ⟨p, l, e, R, s, m, args, below, meth, c, w⟩ := κ
  obtain ⟨hx, hb, hml, hr, hown, hts, hlk, hfr, hlo, hw, hK, hC, hN⟩ := X
  intro H locs ls hP hS hl
  obtain ⟨g1, g2, g3, g4, g5⟩ := cpOk_s hg
  have e0 : tv w (.inr (.inr a0)) = .ref (w.2.2 a0) := tv_ref (by have := (lay_in ha0).1; omega)
  have e1 : tv w (.inr (.inr a1)) = .ref (w.2.2 a1) := tv_ref (by have := (lay_in ha1).1; omega)
  rw [List.map_cons, List.map_cons, List.map_cons, List.map_cons, List.map_cons, e0, e1]
  exact va_copyi hx hb hl.1.symm hown (hts _ hm) (hts _ w_cpy.1) (hts _ w_cpy.2.1) (hts _ w_cpy.2.2) hK hP (wd_D hw h) hS (a0 - 1) (a1 - 1) 0 0 ((wd_at ha0).trans (by rw [cel_a ha0]; rfl)) ((wd_at ha1).trans (by rw [cel_a ha1]; rfl)) rfl rfl rfl g1 g2 g3 g4 g5 (fun _ _ => rfl) (by omega) (by rw [ctS_ok, show nativeFrameWords "java/lang/System" "arraycopy" 5 + 11 = 18 by decide +kernel]; omega) hd (fun H1 locs1 hP1 hD1 hS1 => K H1 locs1 ls (by rw [ci_arr ha1] at hP1; exact hP1) hS1 hl)
theorem J_copyL (X : OK κ cc nL ret own (lv + 1)) {idx a0 a1 n0 n1 : Nat} {sp dp n : Int32} (hm : Cond.methodLink own idx arraycopyName ∈ tbl) (ha0 : lay a0 = some (.inr (1, n0))) (ha1 : lay a1 = some (.inr (1, n1))) (hg : cpOk sp dp n n0 n1 = true) (hd : decode cc pc = .ok (.invokestatic idx, 3)) (hct : ctS st ≤ 8) (K : J κ (pc + 3) L st (cL h a0 sp.toNatClampNeg a1 dp.toNatClampNeg n.toNatClampNeg) r) : J κ pc L (.inl n :: .inl dp :: .inr (.inr a1) :: .inl sp :: .inr (.inr a0) :: st) h r := by
  obtain ⟨p, l, e, R, s, m, args, below, meth, c, w⟩ := κ
  obtain ⟨hx, hb, hml, hr, hown, hts, hlk, hfr, hlo, hw, hK, hC, hN⟩ := X
  intro H locs ls hP hS hl
  obtain ⟨g1, g2, g3, g4, g5⟩ := cpOk_s hg
  have e0 : tv w (.inr (.inr a0)) = .ref (w.2.2 a0) := tv_ref (by have := (lay_in ha0).1; omega)
  have e1 : tv w (.inr (.inr a1)) = .ref (w.2.2 a1) := tv_ref (by have := (lay_in ha1).1; omega)
  rw [List.map_cons, List.map_cons, List.map_cons, List.map_cons, List.map_cons, e0, e1]
  exact va_copyl hx hb hl.1.symm hown (hts _ hm) (hts _ w_cpy.1) (hts _ w_cpy.2.1) (hts _ w_cpy.2.2) hK hP (wd_D hw h) hS (a0 - 1) (a1 - 1) 1 1 ((wd_at ha0).trans (by rw [cel_a ha0]; rfl)) ((wd_at ha1).trans (by rw [cel_a ha1]; rfl)) rfl rfl rfl g1 g2 g3 g4 g5 (fun _ _ => rfl) (by omega) (by rw [ctS_ok, show nativeFrameWords "java/lang/System" "arraycopy" 5 + 11 = 18 by decide +kernel]; omega) hd (fun H1 locs1 hP1 hD1 hS1 => K H1 locs1 ls (by rw [cl_arr ha1] at hP1; exact hP1) hS1 hl)
theorem J_callSN (X : OK κ cc nL ret own lv) {y : MethodName} {cy : ByteArray} {ny : Nat} {ry : Option FieldType} {n ky idx : Nat} {as stk st2 : List cv} {r1 : Option cv × Hp} {h2 : Hp} (hd : decode cc pc = .ok (.invokestatic idx, 3)) (hM : Cal y cy ny ry n) (hi : Cond.static y ∈ tbl) (hl : own = "StruckWords$Tear" ∧ idx = 134 ∧ y = ⟨"StruckWords", "meaningsWith", "(I)I"⟩) (hk : ky + 1 ≤ lv) (hc : ∀ l w, CT l w y cy ny ry ky as h r1) (hn : as.length = n) (hstk : stk = as.reverse ++ st) (hct : ctS st ≤ 8) (e1 : r1.1.toList ++ st = st2) (e2 : r1.2 = h2) (K : J κ (pc + 3) L st2 h2 r) : J κ pc L stk h r := by
  subst e1; subst e2
  obtain ⟨p, l, e, R, s, m, args, below, meth, c, w⟩ := κ
  obtain ⟨hx, hb, hml, hr, hown, hts, hlk, hfr, hlo, hw, hK, hC, hN⟩ := X
  intro H locs ls hP hS hls
  obtain ⟨h1, h2, h3, h4⟩ := hM
  have hG : GoodIn tbl (wsA y cy ny ry) := by
    intro w hw
    have hm : w ∈ tbl := by
      rcases List.mem_cons.mp hw with h | h
      · rw [h]; exact h1
      · exact h
    exact ⟨hm, good_of_word (List.all_eq_true.mp tbl_good w hm)⟩
  have hw1 : va_Nw (.methodLinkNest own idx y "StruckWords") s := by
    obtain ⟨z1, z2, z3⟩ := hl
    rw [z1, z2, z3]
    exact hN
  have cn : va_CN R s args own idx y "StruckWords" cy ny ry (wsA y cy ny ry) (rmk ky) 0 0 n := va_cnB (ws' := tbl) n hts hG rfl rfl rfl hw1 (hts _ h2) h3 ⟨by show ky + 1 ≤ R.frames; omega, by show 8 + (ny + 11) + 64 * ky ≤ R.locals; omega⟩
  have hr := va_runSN (locs := locs) (cells := 0) (slots := 0) (meth := meth) (e := e) (below := below) (As := as.map (tv w)) (rest := st.map (tv w)) (g := F0 m pc ls (stk.map (tv w))) ⟨hx, hb, hml, hown, hts⟩ (hc l w) ⟨cn, hts _ hi, trivial⟩
    ⟨WS_blind, fun U hU hW => ⟨rfl, WS_end hP hS hK hw hC hN hU hW⟩⟩ rfl (by rw [List.length_map]; exact hn) (hls.1.trans hml) (by subst hstk; rw [List.map_append, List.map_reverse]) (by rw [ctS_ok]; show 2 * 0 + ctS st ≤ 8; omega) hd ⟨Nat.zero_le _, Nat.zero_le _⟩
  exact J_run hr hS hls K
end J2
