section TOKA
variable {tp : List Nat} {σ : Nat → Nat} {nm : Nat → List Nat} {h h' : Hp}
theorem loopQ1 {β : Type} {F : (Hp → Option β) → Hp → Option β} {k : Hp → Option β} (n : Nat) (P : Nat → Hp → Prop) (hx : ∀ self h, P n h → F self h = k h) (hs : ∀ self i h, i < n → P i h → ∃ h', F self h = self h' ∧ P (i + 1) h') (h : Hp) (h0 : P 0 h) (hn : n ≤ 1000000) : ∃ h', itr1 F N0 h = k h' ∧ P n h' := by
  refine itr1_loop (F := F) (fun r => ∃ h', r = k h' ∧ P n h') (fun d h => ∃ i, i ≤ n ∧ d = n - i ∧ P i h) ?_ n h N0 (by have := N0_big; omega) ⟨0, by omega, by omega, h0⟩
  intro d self h ⟨i, h1, h2, h4⟩
  by_cases hi : i = n
  · subst hi
    exact Or.inl ⟨h, hx self h h4, h4⟩
  · obtain ⟨h', e1, e2⟩ := hs self i h (by omega) h4
    exact Or.inr ⟨n - (i + 1), h', by omega, ⟨i + 1, by omega, rfl, e2⟩, e1⟩
theorem loopQ4 {A B C β : Type} {F : (A → B → C → Hp → Option β) → A → B → C → Hp → Option β} {k : Hp → Option β} (n : Nat) (u : Nat → A) (v : Nat → B) (w : Nat → C) (P : Nat → Hp → Prop) (hx : ∀ self h, P n h → F self (u n) (v n) (w n) h = k h) (hs : ∀ self i h, i < n → P i h → ∃ h', F self (u i) (v i) (w i) h = self (u (i + 1)) (v (i + 1)) (w (i + 1)) h' ∧ P (i + 1) h') (h : Hp) (h0 : P 0 h) (hn : n ≤ 1000000) : ∃ h', itr4 F N0 (u 0) (v 0) (w 0) h = k h' ∧ P n h' := by
  refine itr4_loop (F := F) (fun r => ∃ h', r = k h' ∧ P n h') (fun d a b c h => ∃ i, i ≤ n ∧ d = n - i ∧ a = u i ∧ b = v i ∧ c = w i ∧ P i h) ?_ n (u 0) (v 0) (w 0) h N0 (by have := N0_big; omega) ⟨0, by omega, by omega, rfl, rfl, rfl, h0⟩
  intro d self a b c h ⟨i, h1, h2, h3, h3', h3'', h4⟩
  subst h3; subst h3'; subst h3''
  by_cases hi : i = n
  · subst hi
    exact Or.inl ⟨h, hx self h h4, h4⟩
  · obtain ⟨h', e1, e2⟩ := hs self i h (by omega) h4
    exact Or.inr ⟨n - (i + 1), u (i + 1), v (i + 1), w (i + 1), h', by omega, ⟨i + 1, by omega, rfl, rfl, rfl, rfl, e2⟩, e1⟩
theorem fst_min (p : Nat → Bool) {n m : Nat} (hn : n ≤ m) : fst p n = min (fst p m) n := by
  obtain ⟨a1, a2, a3⟩ := fst_spec p n
  obtain ⟨b1, b2, b3⟩ := fst_spec p m
  by_cases h1 : fst p m < n
  · have pb := b3 (by omega)
    have l1 : fst p n ≤ fst p m := by
      by_cases h2 : fst p n ≤ fst p m
      · exact h2
      · have := a2 (fst p m) (by omega)
        rw [this] at pb; cases pb
    have pa := a3 (by omega)
    have l2 : fst p m ≤ fst p n := by
      by_cases h2 : fst p m ≤ fst p n
      · exact h2
      · have := b2 (fst p n) (by omega)
        rw [this] at pa; cases pa
    omega
  · have : fst p n = n := by
      by_cases h2 : fst p n < n
      · have pa := a3 h2
        have := b2 (fst p n) (by omega)
        rw [this] at pa; cases pa
      · omega
    omega
/-! characters -/
def isBl (c : Nat) : Bool := decide (c = 32) || decide (c = 10)
def isLt (c : Nat) : Bool := decide (97 ≤ c) && decide (c ≤ 122)
def isDg (c : Nat) : Bool := decide (48 ≤ c) && decide (c ≤ 57)
def isWd (c : Nat) : Bool := isLt c || isDg c
/-- the first place from p on, below n, at which f does not hold -/
def to1 (f : Nat → Bool) (tp : List Nat) (n p : Nat) : Nat := p + fst (fun i => !f (tp.getD (p + i) 0)) (n - p)
theorem to1_b {f : Nat → Bool} {n p : Nat} (hp : p ≤ n) : p ≤ to1 f tp n p ∧ to1 f tp n p ≤ n := by
  obtain ⟨a1, a2, a3⟩ := fst_spec (fun i => !f (tp.getD (p + i) 0)) (n - p)
  unfold to1
  omega
theorem to1_in {f : Nat → Bool} {n p i : Nat} (hi : p + i < to1 f tp n p) : f (tp.getD (p + i) 0) = true := by
  obtain ⟨a1, a2, a3⟩ := fst_spec (fun i => !f (tp.getD (p + i) 0)) (n - p)
  unfold to1 at hi
  have := a2 i (by omega)
  cases q : f (tp.getD (p + i) 0)
  · rw [q] at this; cases this
  · rfl
theorem to1_at {f : Nat → Bool} {n p : Nat} (hi : to1 f tp n p < n) : f (tp.getD (to1 f tp n p) 0) = false := by
  obtain ⟨a1, a2, a3⟩ := fst_spec (fun i => !f (tp.getD (p + i) 0)) (n - p)
  unfold to1 at hi ⊢
  have := a3 (by omega)
  cases q : f (tp.getD (p + fst (fun i => !f (tp.getD (p + i) 0)) (n - p)) 0)
  · rfl
  · rw [q] at this; cases this
theorem to1_min {f : Nat → Bool} {n m p : Nat} (hn : n ≤ m) : to1 f tp n (min p n) = min (to1 f tp m p) n := by
  by_cases h1 : p ≤ n
  · rw [Nat.min_eq_left h1]
    unfold to1
    rw [fst_min (fun i => !f (tp.getD (p + i) 0)) (show n - p ≤ m - p by omega)]
    omega
  · rw [Nat.min_eq_right (by omega)]
    unfold to1
    rw [Nat.sub_self]
    show n + 0 = _
    omega
/-- where a token begins; where the word there ends -/
def tkB (tp : List Nat) (L p : Nat) : Nat := min (to1 isBl tp tp.length p) (min tp.length L)
def tkE (tp : List Nat) (s : Nat) : Nat := to1 isWd tp tp.length s
/-- its characters -/
def tkC (tp : List Nat) (s : Nat) : List Nat := (tp.drop s).take (tkE tp s - s)
/-- letters, digits among the first i from s on -/
def cnt (f : Nat → Bool) (tp : List Nat) (s : Nat) : Nat → Nat
  | 0 => 0
  | i + 1 => cnt f tp s i + (if f (tp.getD (s + i) 0) = true then 1 else 0)
theorem cnt_le (f : Nat → Bool) (tp : List Nat) (s : Nat) : ∀ i, cnt f tp s i ≤ i
  | 0 => Nat.le_refl _
  | i + 1 => by
    have := cnt_le f tp s i
    show cnt f tp s i + _ ≤ i + 1
    by_cases h1 : f (tp.getD (s + i) 0) = true
    · rw [if_pos h1]; omega
    · rw [if_neg h1]; omega
/-- the letters as numbers; the number -/
def tkN (tp : List Nat) (s : Nat) : Nat → List Nat
  | 0 => []
  | i + 1 => tkN tp s i ++ [tp.getD (s + i) 0 - 96]
def tkV (tp : List Nat) (s : Nat) : Nat → Nat
  | 0 => 0
  | i + 1 => tkV tp s i * 10 + (tp.getD (s + i) 0 - 48)
/-- its kind: 0 none, 1 a word, 2 a number, 3 the close, 4 none of them -/
def tkK (tp : List Nat) (s : Nat) : Nat :=
  let n := tkE tp s - s
  if n = 0 then (if tp.getD s 0 = 59 then 3 else 4)
  else if cnt isDg tp s n = 0 then (if 6 < n then 4 else 1)
  else if cnt isLt tp s n = 0 then (if 2 < n then 4 else 2)
  else 4
theorem lw (c : Nat) : isWd c = true → (isLt c = true ∧ isDg c = false) ∨ (isLt c = false ∧ isDg c = true) := by
  intro h1
  unfold isWd at h1
  cases hl : isLt c
  · rw [hl, Bool.false_or] at h1
    exact Or.inr ⟨rfl, h1⟩
  · refine Or.inl ⟨rfl, ?_⟩
    unfold isLt at hl
    unfold isDg
    rw [Bool.and_eq_true, decide_eq_true_eq, decide_eq_true_eq] at hl
    rw [decide_eq_false (show ¬ c ≤ 57 by omega), Bool.and_false]
theorem cnt_sum {tp : List Nat} {s : Nat} : ∀ i, (∀ j, j < i → isWd (tp.getD (s + j) 0) = true) → cnt isLt tp s i + cnt isDg tp s i = i
  | 0, _ => rfl
  | i + 1, hw => by
    have := cnt_sum (tp := tp) (s := s) i (fun j hj => hw j (by omega))
    show cnt isLt tp s i + _ + (cnt isDg tp s i + _) = i + 1
    rcases lw _ (hw i (by omega)) with ⟨a, b⟩ | ⟨a, b⟩
    · rw [a, b, if_pos rfl, if_neg (by decide)]; omega
    · rw [a, b, if_pos rfl, if_neg (by decide)]; omega
theorem cnt_0 {f : Nat → Bool} {s : Nat} : ∀ i, cnt f tp s i = 0 → ∀ j, j < i → f (tp.getD (s + j) 0) = false
  | 0, _, j, hj => absurd hj (Nat.not_lt_zero _)
  | i + 1, h0, j, hj => by
    have e : cnt f tp s (i + 1) = cnt f tp s i + (if f (tp.getD (s + i) 0) = true then 1 else 0) := rfl
    rw [e] at h0
    by_cases h1 : j = i
    · subst h1
      cases q : f (tp.getD (s + j) 0)
      · rfl
      · rw [q, if_pos rfl] at h0; omega
    · exact cnt_0 i (by omega) j (by omega)
theorem tkN_len (tp : List Nat) (s : Nat) : ∀ i, (tkN tp s i).length = i
  | 0 => rfl
  | i + 1 => by
    show (tkN tp s i ++ [_]).length = _
    rw [List.length_append, tkN_len, List.length_singleton]
theorem tkN_ok {s : Nat} : ∀ i, (∀ j, j < i → isLt (tp.getD (s + j) 0) = true) → ∀ x ∈ tkN tp s i, 1 ≤ x ∧ x ≤ 26
  | 0, _, x, hx => by cases hx
  | i + 1, hl, x, hx => by
    rcases List.mem_append.mp hx with z | z
    · exact tkN_ok i (fun j hj => hl j (by omega)) x z
    · rw [List.mem_singleton.mp z]
      have := hl i (by omega)
      unfold isLt at this
      rw [Bool.and_eq_true, decide_eq_true_eq, decide_eq_true_eq] at this
      omega
theorem tkV_lt {s : Nat} : ∀ i, (∀ j, j < i → isDg (tp.getD (s + j) 0) = true) → tkV tp s i < 10 ^ i
  | 0, _ => by show 0 < 1; decide
  | i + 1, hl => by
    have a := tkV_lt i (fun j hj => hl j (by omega))
    have := hl i (by omega)
    unfold isDg at this
    rw [Bool.and_eq_true, decide_eq_true_eq, decide_eq_true_eq] at this
    show tkV tp s i * 10 + _ < 10 ^ (i + 1)
    rw [Nat.pow_succ]
    omega
end TOKA
