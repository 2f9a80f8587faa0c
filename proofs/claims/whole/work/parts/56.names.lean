section TB
variable {tp : List Nat} {σ τ : Nat → Nat} {nm nm2 : Nat → List Nat} {K : Im} {fd : List Nat} {fl : Nat} {tn : Option Tn} {h h' : Hp}
/-! letters of NAMES -/
/-- the i-th letter from the last on; 0: it has fewer -/
def ll (l : List Nat) (i : Nat) : Nat := if i < l.length then l.getD (l.length - 1 - i) 0 else 0
theorem ll_snoc0 (l : List Nat) (x : Nat) : ll (l ++ [x]) 0 = x := by
  unfold ll
  rw [if_pos (by rw [List.length_append, List.length_singleton]; omega), List.length_append, List.length_singleton]
  simp [List.getD_eq_getElem?_getD]
theorem ll_snocS (l : List Nat) (x i : Nat) : ll (l ++ [x]) (i + 1) = ll l i := by
  unfold ll
  rw [List.length_append, List.length_singleton]
  by_cases h1 : i < l.length
  · rw [if_pos (by omega), if_pos h1, show l.length + 1 - 1 - (i + 1) = l.length - 1 - i by omega]
    simp [List.getD_eq_getElem?_getD, List.getElem?_append_left (show l.length - 1 - i < l.length by omega)]
  · rw [if_neg (by omega), if_neg h1]
theorem nmC_snoc (l : List Nat) (x : Nat) : nmC (l ++ [x]) = nmC l * 32 + x := by
  unfold nmC
  rw [List.foldl_append, List.foldl_cons, List.foldl_nil]
theorem nmM_snoc (l : List Nat) (x : Nat) : nmM (l ++ [x]) = nmM l * 256 + (x + 96) := by
  unfold nmM
  rw [List.foldl_append, List.foldl_cons, List.foldl_nil]
theorem snoc_ind {P : List Nat → Prop} (h0 : P []) (h1 : ∀ l x, P l → P (l ++ [x])) (l : List Nat) : P l := by
  have key : ∀ n (l : List Nat), l.length = n → P l := by
    intro n
    induction n with
    | zero => intro l hl; rw [List.length_eq_zero_iff.mp hl]; exact h0
    | succ n ih =>
      intro l hl
      rcases List.eq_nil_or_concat l with z | ⟨l', x, z⟩
      · rw [z] at hl; cases hl
      · rw [List.concat_eq_append] at z
        rw [z]
        rw [z, List.length_append, List.length_singleton] at hl
        exact h1 l' x (ih l' (by omega))
  exact key _ l rfl
theorem pwS (b i : Nat) : b ^ (i + 1) = b * b ^ i := by rw [Nat.pow_succ, Nat.mul_comm]
theorem nmC_dig : ∀ (l : List Nat), (∀ x ∈ l, x < 32) → ∀ i, nmC l / 32 ^ i % 32 = ll l i := by
  refine snoc_ind ?_ ?_
  · intro _ i
    show 0 / _ % 32 = 0
    rw [Nat.zero_div]
  · intro l x ih hl i
    have hx : x < 32 := hl x (by simp)
    have ih := ih (fun y hy => hl y (by simp [hy]))
    rw [nmC_snoc]
    cases i with
    | zero =>
      rw [Nat.pow_zero, Nat.div_one, ll_snoc0]
      omega
    | succ i =>
      rw [ll_snocS, ← ih i, pwS, ← Nat.div_div_eq_div_mul, show (nmC l * 32 + x) / 32 = nmC l by omega]
theorem nmM_dig : ∀ (l : List Nat), (∀ x ∈ l, x < 32) → ∀ i, nmM l / 256 ^ i % 256 = if i < l.length then ll l i + 96 else 0 := by
  refine snoc_ind ?_ ?_
  · intro _ i
    show 0 / _ % 256 = _
    rw [Nat.zero_div]
    rfl
  · intro l x ih hl i
    have hx : x < 32 := hl x (by simp)
    have ih := ih (fun y hy => hl y (by simp [hy]))
    rw [nmM_snoc, List.length_append, List.length_singleton]
    cases i with
    | zero =>
      rw [Nat.pow_zero, Nat.div_one, ll_snoc0, if_pos (by omega)]
      omega
    | succ i =>
      rw [ll_snocS, pwS, ← Nat.div_div_eq_div_mul, show (nmM l * 256 + (x + 96)) / 256 = nmM l by omega, ih i]
      by_cases h1 : i < l.length
      · rw [if_pos h1, if_pos (by omega)]
      · rw [if_neg h1, if_neg (by omega)]
theorem nmC_lt : ∀ (l : List Nat), (∀ x ∈ l, x < 32) → nmC l < 32 ^ l.length := by
  refine snoc_ind (fun _ => by decide) ?_
  intro l x ih hl
  have hx : x < 32 := hl x (by simp)
  have ih := ih (fun y hy => hl y (by simp [hy]))
  rw [nmC_snoc, List.length_append, List.length_singleton, pwS]
  generalize 32 ^ l.length = p at *
  omega
theorem nmM_lt : ∀ (l : List Nat), (∀ x ∈ l, x < 32) → nmM l < 256 ^ l.length := by
  refine snoc_ind (fun _ => by decide) ?_
  intro l x ih hl
  have hx : x < 32 := hl x (by simp)
  have ih := ih (fun y hy => hl y (by simp [hy]))
  rw [nmM_snoc, List.length_append, List.length_singleton, pwS]
  generalize 256 ^ l.length = p at *
  omega
theorem okNm.lt {l : List Nat} (h : okNm l) : ∀ x ∈ l, x < 32 := fun x hx => by have := h.2.2 x hx; omega
theorem okNm.c30 {l : List Nat} (h : okNm l) : nmC l < 1073741824 := Nat.lt_of_lt_of_le (nmC_lt l h.lt) (Nat.le_trans (Nat.pow_le_pow_right (by decide) h.2.1) (by decide))
theorem okNm.m48 {l : List Nat} (h : okNm l) : nmM l < 281474976710656 := Nat.lt_of_lt_of_le (nmM_lt l h.lt) (Nat.le_trans (Nat.pow_le_pow_right (by decide) h.2.1) (by decide))
theorem ll_lt {l : List Nat} (h : ∀ x ∈ l, x < 32) (i : Nat) : ll l i < 32 := by
  unfold ll
  by_cases h1 : i < l.length
  · rw [if_pos h1]; exact getD_P (P := fun x => x < 32) (by omega) h
  · rw [if_neg h1]; decide
theorem ll_pos {l : List Nat} (h : okNm l) {i : Nat} : (ll l i = 0) = ¬ i < l.length := by
  apply propext
  unfold ll
  by_cases h1 : i < l.length
  · rw [if_pos h1]
    have := getD_P (P := fun x => 1 ≤ x) (show l.length - 1 - i < l.length by omega) (fun x hx => (h.2.2 x hx).1)
    exact ⟨fun z => by omega, fun z => absurd h1 z⟩
  · rw [if_neg h1]
    exact ⟨fun _ => h1, fun _ => rfl⟩
/-- lists are the same where they are so from the last on -/
theorem ll_ext {l m : List Nat} (hl : l.length = m.length) (h : ∀ i, i < l.length → ll l i = ll m i) : l = m := by
  apply List.ext_getElem hl
  intro i h1 h2
  have := h (l.length - 1 - i) (by omega)
  unfold ll at this
  rw [if_pos (by omega), if_pos (by omega), show l.length - 1 - (l.length - 1 - i) = i by omega, ← hl, show l.length - 1 - (l.length - 1 - i) = i by omega, getD_el h1, getD_el h2] at this
  exact this
theorem nmM_inj {l m : List Nat} (h1 : ∀ x ∈ l, x < 32) (h2 : ∀ x ∈ m, x < 32) (e : nmM l = nmM m) : l = m := by
  have d : ∀ i, (if i < l.length then ll l i + 96 else 0) = (if i < m.length then ll m i + 96 else 0) := fun i => by rw [← nmM_dig l h1 i, ← nmM_dig m h2 i, e]
  have hlen : l.length = m.length := by
    have a := d l.length
    have b := d m.length
    rw [if_neg (by omega)] at a
    rw [if_neg (show ¬ m.length < m.length by omega)] at b
    by_cases h3 : l.length < m.length
    · rw [if_pos h3] at a; omega
    · by_cases h4 : m.length < l.length
      · rw [if_pos h4] at b; omega
      · omega
  refine ll_ext hlen (fun i hi => ?_)
  have := d i
  rw [if_pos hi, if_pos (by omega)] at this
  omega
theorem nmC_inj {l m : List Nat} (h1 : okNm l) (h2 : okNm m) (e : nmC l = nmC m) : l = m := by
  have d : ∀ i, ll l i = ll m i := fun i => by rw [← nmC_dig l h1.lt i, ← nmC_dig m h2.lt i, e]
  have hlen : l.length = m.length := by
    have a : (ll l l.length = 0) = ¬ l.length < l.length := ll_pos h1
    have b : (ll m l.length = 0) = ¬ l.length < m.length := ll_pos h2
    have c : (ll l m.length = 0) = ¬ m.length < l.length := ll_pos h1
    have e : (ll m m.length = 0) = ¬ m.length < m.length := ll_pos h2
    rw [d] at a c
    rw [b] at a
    rw [e] at c
    have a' : ¬ l.length < m.length := by rw [a]; omega
    have c' : ¬ m.length < l.length := by rw [← c]; omega
    omega
  exact ll_ext hlen (fun i _ => d i)
/-- the class's letters -/
theorem c_letter {l : List Nat} {i : Nat} (ok : okNm l) (hi : i < 6) : f_X9_letterFromLast (nI (nmC l)) (nI i) h = some (nI (ll l i), h) := by
  have a := ok.c30
  unfold f_X9_letterFromLast
  have e : jushr (nI (nmC l)) (nI (5 * i)) = nI (nmC l / 2 ^ (5 * i)) := by
    have k : ∀ k, k < 32 → (((nI k).toUInt32 &&& Int32.toUInt32 31).toBitVec % 32).toNat = k := by decide +kernel
    exact pk_ushrN (by omega) _ _ (k (5 * i) (by omega))
  rw [li_5, pk_mul, e, li_31, nand31 _ (Nat.lt_of_le_of_lt (Nat.div_le_self _ _) (by omega)), ← nmC_dig l ok.lt i, show (32 : Nat) = 2 ^ 5 from rfl, ← Nat.pow_mul]
/-- the reference's letters -/
theorem m_letter {l : List Nat} {i : Nat} (ok : okNm l) (hi : i < 8) : ((jlshr (lN (nmM l)) (nI (8 * i))) &&& 255).toInt32 = nI (if i < l.length then ll l i + 96 else 0) := by
  have a := ok.m48
  rw [Lshr (by omega) (by omega), show (255 : Int64) = lN 255 from rfl, Land255 (Nat.lt_of_le_of_lt (Nat.div_le_self _ _) (by omega)), LtoI, ← nmM_dig l ok.lt i, show (256 : Nat) = 2 ^ 8 from rfl, ← Nat.pow_mul]
end TB
