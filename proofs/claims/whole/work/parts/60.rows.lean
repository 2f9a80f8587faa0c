section TE
variable {tp : List Nat} {σ τ : Nat → Nat} {nm nm2 : Nat → List Nat} {K : Im} {fd : List Nat} {fl : Nat} {tn : Option Tn} {h h' : Hp}
/-! rows of SAYINGS, by their numbers -/
def dig (S : Nat) : Nat → Nat → List Nat
  | 0, _ => []
  | n + 1, k => dig S n (k / S) ++ [k % S]
theorem dig_len (S : Nat) : ∀ n k, (dig S n k).length = n
  | 0, _ => rfl
  | n + 1, k => by
    unfold dig
    rw [List.length_append, dig_len S n, List.length_singleton]
theorem dig_lt {S : Nat} (hS : 0 < S) : ∀ n k, ∀ x ∈ dig S n k, x < S
  | 0, _ => fun x hx => by cases hx
  | n + 1, k => fun x hx => by
    unfold dig at hx
    rcases List.mem_append.mp hx with z | z
    · exact dig_lt hS n _ x z
    · rw [List.mem_singleton.mp z]
      exact Nat.mod_lt _ hS
theorem dig_s {S P w n : Nat} (hw : w < S) : dig S (n + 1) (P * S + w) = dig S n P ++ [w] := by
  show dig S n ((P * S + w) / S) ++ [(P * S + w) % S] = _
  have e1 : (P * S + w) / S = P := by
    rw [Nat.mul_comm, Nat.mul_add_div (by omega), Nat.div_eq_of_lt hw, Nat.add_zero]
  have e2 : (P * S + w) % S = w := by
    rw [Nat.mul_comm, Nat.mul_add_mod, Nat.mod_eq_of_lt hw]
  rw [e1, e2]
theorem ps_div {S P w : Nat} (hw : w < S) : (P * S + w) / S = P := by
  rw [Nat.mul_comm, Nat.mul_add_div (by omega), Nat.div_eq_of_lt hw, Nat.add_zero]
theorem ps_mod {S P w : Nat} (hw : w < S) : (P * S + w) % S = w := by
  rw [Nat.mul_comm, Nat.mul_add_mod, Nat.mod_eq_of_lt hw]
/-- place i of the row P of d -/
def dgt (S d P i : Nat) : Nat := P / S ^ (d - 1 - i) % S
theorem dgt_last {S d P w : Nat} (hw : w < S) : dgt S (d + 1) (P * S + w) d = w := by
  unfold dgt
  rw [show d + 1 - 1 - d = 0 by omega, Nat.pow_zero, Nat.div_one, ps_mod hw]
theorem dgt_lo {S d P w i : Nat} (hw : w < S) (hi : i < d) : dgt S (d + 1) (P * S + w) i = dgt S d P i := by
  unfold dgt
  rw [show d + 1 - 1 - i = (d - 1 - i) + 1 by omega, pwS, ← Nat.div_div_eq_div_mul, ps_div hw]
theorem dgt_up {S d P i : Nat} (hi : i < d) : dgt S d (P / S) i = dgt S (d + 1) P i := by
  unfold dgt
  rw [show d + 1 - 1 - i = (d - 1 - i) + 1 by omega, pwS, ← Nat.div_div_eq_div_mul]
theorem dgt_lt {S : Nat} (hS : 0 < S) (d P i : Nat) : dgt S d P i < S := Nat.mod_lt _ hS
theorem dig_dgt {S : Nat} : ∀ {n k i : Nat}, i < n → (dig S n k).getD i 0 = dgt S n k i
  | 0, k, i, h => by omega
  | n + 1, k, i, h => by
    unfold dig
    by_cases h1 : i = n
    · subst h1
      have : (dig S i (k / S)).length = i := dig_len _ _ _
      unfold dgt
      rw [show i + 1 - 1 - i = 0 by omega, Nat.pow_zero, Nat.div_one]
      simp [List.getD_eq_getElem?_getD, this]
    · have l : i < (dig S n (k / S)).length := by rw [dig_len]; omega
      rw [← dgt_up (by omega), ← dig_dgt (show i < n by omega)]
      simp [List.getD_eq_getElem?_getD, List.getElem?_append_left l]
/-- the first i places of row P of d -/
def up (S d P i : Nat) : Nat := P / S ^ (d - i)
theorem up_self (S d P : Nat) : up S d P d = P := by
  unfold up
  rw [Nat.sub_self, Nat.pow_zero, Nat.div_one]
theorem up_lo {S d P w i : Nat} (hw : w < S) (hi : i ≤ d) : up S (d + 1) (P * S + w) i = up S d P i := by
  unfold up
  rw [show d + 1 - i = (d - i) + 1 by omega, pwS, ← Nat.div_div_eq_div_mul, ps_div hw]
theorem up_up {S d P i : Nat} (hi : i ≤ d) : up S d (P / S) i = up S (d + 1) P i := by
  unfold up
  rw [show d + 1 - i = (d - i) + 1 by omega, pwS, ← Nat.div_div_eq_div_mul]
/-! what is LEFT of a row by b: its state, its beats -/
def lfr (e r b : Nat) (l : List Nat) : List Nat := lf (stk e r b) (fun i => l.getD i 0) l.length
theorem lfr_snoc (e r b : Nat) (l : List Nat) (w : Nat) : lfr e r b (l ++ [w]) = lfr e r b l ++ (if stk e r b (l.length + 1) then [] else [w]) := by
  unfold lfr
  rw [List.length_append, List.length_singleton]
  show lf _ _ l.length ++ _ = _
  rw [lf_cong (stk e r b) (f := fun i => (l ++ [w]).getD i 0) (g := fun i => l.getD i 0) l.length (fun i hi => by
    simp [List.getD_eq_getElem?_getD, List.getElem?_append_left hi])]
  have e : (l ++ [w]).getD l.length 0 = w := by simp [List.getD_eq_getElem?_getD]
  dsimp only
  rw [e]
def rb (τ : Nat → Nat) (e r b : Nat) (l : List Nat) : Nat := run τ (lfr e r b l)
def bt (τ : Nat → Nat) (e r b : Nat) (l : List Nat) : Nat := bsum τ (lfr e r b l)
theorem rb_nil (e r b : Nat) : rb τ e r b [] = 1099511627776 := rfl
theorem bt_nil (e r b : Nat) : bt τ e r b [] = 0 := rfl
theorem rb_snoc (e r b : Nat) (l : List Nat) (w : Nat) : rb τ e r b (l ++ [w]) = if stk e r b (l.length + 1) = true then rb τ e r b l else stp τ (rb τ e r b l) w := by
  unfold rb
  rw [lfr_snoc]
  by_cases h1 : stk e r b (l.length + 1) = true
  · rw [if_pos h1, if_pos h1, List.append_nil]
  · rw [if_neg h1, if_neg h1, run_snoc]
theorem bt_snoc (e r b : Nat) (l : List Nat) (w : Nat) : bt τ e r b (l ++ [w]) = bt τ e r b l + (if stk e r b (l.length + 1) = true then 0 else τ (40 + w)) := by
  unfold bt
  rw [lfr_snoc]
  by_cases h1 : stk e r b (l.length + 1) = true
  · rw [if_pos h1, if_pos h1, List.append_nil, Nat.add_zero]
  · rw [if_neg h1, if_neg h1, bsum_snoc]
theorem lfr_mem (e r b : Nat) {l : List Nat} {P : Nat → Prop} (hl : ∀ x ∈ l, P x) : ∀ x ∈ lfr e r b l, P x := lf_mem _ _ _ (fun i hi => getD_P hi hl)
theorem rb_le (H : TgOk τ nm) (e r b : Nat) {l : List Nat} (hl : ∀ x ∈ l, x < 8) : rb τ e r b l ≤ 1099511627776 := run_le H (lfr_mem e r b hl)
theorem bt_le (H : TgOk τ nm) (e r b : Nat) {l : List Nat} (hl : ∀ x ∈ l, x < τ 2) : bt τ e r b l ≤ 9 * l.length := by
  have a := bsum_le H (lfr_mem e r b hl)
  have b' := lf_len (stk e r b) (fun i => l.getD i 0) l.length
  have c : (lfr e r b l).length ≤ l.length := b'
  have d : bt τ e r b l ≤ 9 * (lfr e r b l).length := a
  omega
/-- the state, beats of row P of d -/
def rs (τ : Nat → Nat) (e r b d P : Nat) : Nat := rb τ e r b (dig (τ 2) d P)
def bs (τ : Nat → Nat) (e r b d P : Nat) : Nat := bt τ e r b (dig (τ 2) d P)
theorem rs_0 (e r b P : Nat) : rs τ e r b 0 P = 1099511627776 := rfl
theorem bs_0 (e r b P : Nat) : bs τ e r b 0 P = 0 := rfl
theorem rs_s {e r b d P w : Nat} (hw : w < τ 2) : rs τ e r b (d + 1) (P * τ 2 + w) = if stk e r b (d + 1) = true then rs τ e r b d P else stp τ (rs τ e r b d P) w := by
  unfold rs
  rw [dig_s hw, rb_snoc, dig_len]
theorem bs_s {e r b d P w : Nat} (hw : w < τ 2) : bs τ e r b (d + 1) (P * τ 2 + w) = bs τ e r b d P + (if stk e r b (d + 1) = true then 0 else τ (40 + w)) := by
  unfold bs
  rw [dig_s hw, bt_snoc, dig_len]
theorem rs_le (H : TgOk τ nm) (h0 : 0 < τ 2) (e r b d P : Nat) : rs τ e r b d P ≤ 1099511627776 := rb_le H e r b (fun x hx => by
  have := dig_lt h0 d P x hx
  have := H.1.2.2.1
  omega)
theorem rs_le' (H : TgOk τ nm) (e r b d P : Nat) (hd : d = 0 ∨ 0 < τ 2) : rs τ e r b d P ≤ 1099511627776 := by
  rcases hd with z | z
  · subst z; rw [rs_0]; omega
  · exact rs_le H z e r b d P
theorem bs_le (H : TgOk τ nm) (e r b d P : Nat) (hd : d = 0 ∨ 0 < τ 2) : bs τ e r b d P ≤ 9 * d := by
  rcases hd with z | z
  · subst z; rw [bs_0]; omega
  · have := bt_le H e r b (fun x hx => dig_lt z d P x hx)
    rw [dig_len] at this
    exact this
/-- rows of n that begin with row P of d -/
theorem in_sub {S m P k : Nat} (h1 : P * S ^ m ≤ k) (h2 : k < (P + 1) * S ^ m) : k / S ^ m = P := by
  have p : 0 < S ^ m := by
    rcases Nat.eq_zero_or_pos (S ^ m) with z | z
    · rw [z] at h2; omega
    · exact z
  apply Nat.div_eq_of_lt_le
  · exact h1
  · exact h2
theorem rs_up_s {e r b n k i : Nat} (hi : i < n) (h0 : 0 < τ 2) : rs τ e r b (i + 1) (up (τ 2) n k (i + 1)) = if stk e r b (i + 1) = true then rs τ e r b i (up (τ 2) n k i) else stp τ (rs τ e r b i (up (τ 2) n k i)) (dgt (τ 2) n k i) := by
  have e1 : up (τ 2) n k (i + 1) = up (τ 2) n k i * τ 2 + dgt (τ 2) n k i := by
    unfold up dgt
    rw [show n - 1 - i = n - (i + 1) by omega, show n - i = (n - (i + 1)) + 1 by omega, Nat.pow_succ, ← Nat.div_div_eq_div_mul, Nat.mul_comm, Nat.div_add_mod]
  rw [e1]
  exact rs_s (dgt_lt h0 _ _ _)
theorem bs_up_s {e r b n k i : Nat} (hi : i < n) (h0 : 0 < τ 2) : bs τ e r b (i + 1) (up (τ 2) n k (i + 1)) = bs τ e r b i (up (τ 2) n k i) + (if stk e r b (i + 1) = true then 0 else τ (40 + dgt (τ 2) n k i)) := by
  have e1 : up (τ 2) n k (i + 1) = up (τ 2) n k i * τ 2 + dgt (τ 2) n k i := by
    unfold up dgt
    rw [show n - 1 - i = n - (i + 1) by omega, show n - i = (n - (i + 1)) + 1 by omega, Nat.pow_succ, ← Nat.div_div_eq_div_mul, Nat.mul_comm, Nat.div_add_mod]
  rw [e1]
  exact bs_s (dgt_lt h0 _ _ _)
/-- where nothing can be read any more, nothing can later -/
theorem rs_dead {e r b n k : Nat} (h0 : 0 < τ 2) {d : Nat} (hz : rs τ e r b d (up (τ 2) n k d) = 0) : ∀ j, d + j ≤ n → rs τ e r b (d + j) (up (τ 2) n k (d + j)) = 0
  | 0, _ => hz
  | j + 1, hj => by
    have ih := rs_dead h0 hz j (by omega)
    rw [show d + (j + 1) = d + j + 1 by omega, rs_up_s (by omega) h0, ih, stp_0, ite_self]
/-- beats grow -/
theorem bs_mono {e r b n k : Nat} (h0 : 0 < τ 2) {d : Nat} : ∀ j, d + j ≤ n → bs τ e r b d (up (τ 2) n k d) ≤ bs τ e r b (d + j) (up (τ 2) n k (d + j))
  | 0, _ => Nat.le_refl _
  | j + 1, hj => by
    have ih := bs_mono (e := e) (r := r) (b := b) (n := n) (k := k) h0 (d := d) j (by omega)
    rw [show d + (j + 1) = d + j + 1 by omega, bs_up_s (by omega) h0]
    omega
theorem mnt_0 : mnt τ 0 = 0 := by
  unfold mnt byo
  simp [ors]
/-- a GOAL is met -/
def gokB (g v : Nat) : Bool := if g < 8 then decide (v = 2 ^ g) else if g = 8 then decide (v = 0) else if g = 9 then true else decide (pop v = 1)
def gok (g v : Nat) : Prop := gokB g v = true
/-- row k of n has all GOALS, and kb beats (none: any) -/
def Qr (τ : Nat → Nat) (e r : Nat) (g : Nat → Nat) (kb : Option Nat) (n k : Nat) : Prop := (∀ q, kb = some q → ∀ b, 1 ≤ b → b ≤ e → bs τ e r b n k = q) ∧ ∀ b, b ≤ e → gok (g b) (mnt τ (rs τ e r b n k))
theorem gok_0 {g : Nat} (h8 : g ≠ 8) (h9 : g ≠ 9) : ¬ gok g 0 := by
  unfold gok gokB
  by_cases h1 : g < 8
  · rw [if_pos h1, decide_eq_true_eq]
    have := Nat.two_pow_pos g
    omega
  · rw [if_neg h1, if_neg h8, if_neg h9]
    decide
/-! numbers of rows -/
theorem pow_le_big {S n : Nat} (hS : S ≤ 8) (hn : n ≤ 13) : S ^ n ≤ 549755813888 := Nat.le_trans (Nat.pow_le_pow_left hS n) (Nat.le_trans (Nat.pow_le_pow_right (by decide) hn) (by decide))
theorem pow_le_6 {S n : Nat} (hS : S ≤ 8) (hn : n ≤ 6) : S ^ n ≤ 262144 := Nat.le_trans (Nat.pow_le_pow_left hS n) (Nat.le_trans (Nat.pow_le_pow_right (by decide) hn) (by decide))
end TE
