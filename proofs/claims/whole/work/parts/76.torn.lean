section TORN
variable {σ : Nat → Nat} {nm : Nat → List Nat} {h h' : Hp}
/-! TORN: places, of which some still have their SAYING -/
def may (p : Option Nat) (w : Nat) : Bool := match p with
  | none => true
  | some v => decide (v = w)
def wgt (σ : Nat → Nat) (p : Option Nat) (w : Nat) : Nat := match p with
  | none => σ (48 + w)
  | some _ => 1
def lI (p : Option Nat) : Int32 := match p with
  | none => -1
  | some w => nI w
def mx (f : Nat → Nat) : Nat → Nat
  | 0 => 0
  | n + 1 => max (mx f n) (f n)
theorem mx_le {f : Nat → Nat} {c : Nat} : ∀ n, mx f n ≤ c ↔ ∀ i, i < n → f i ≤ c
  | 0 => ⟨fun _ i hi => absurd hi (Nat.not_lt_zero _), fun _ => Nat.zero_le _⟩
  | n + 1 => by
    show max (mx f n) (f n) ≤ c ↔ _
    rw [Nat.max_le, mx_le n]
    constructor
    · intro ⟨h1, h2⟩ i hi
      by_cases h3 : i = n
      · rw [h3]; exact h2
      · exact h1 i (by omega)
    · intro z
      exact ⟨fun i hi => z i (by omega), z n (by omega)⟩
theorem mx_ge {f : Nat → Nat} {n i : Nat} (hi : i < n) : f i ≤ mx f n := (mx_le n).mp (Nat.le_refl _) i hi
theorem mx_cong {f g : Nat → Nat} : ∀ n, (∀ i, i < n → f i = g i) → mx f n = mx g n
  | 0, _ => rfl
  | n + 1, hf => by
    unfold mx
    rw [mx_cong n (fun i hi => hf i (by omega)), hf n (by omega)]
theorem mx_at {f : Nat → Nat} : ∀ n, 0 < mx f n → ∃ i, i < n ∧ f i = mx f n
  | 0, hz => absurd hz (Nat.lt_irrefl 0)
  | n + 1, hz => by
    have e : mx f (n + 1) = max (mx f n) (f n) := rfl
    by_cases h1 : mx f n ≤ f n
    · exact ⟨n, by omega, by rw [e]; omega⟩
    · obtain ⟨i, h2, h3⟩ := mx_at (f := f) n (by omega)
      exact ⟨i, by omega, by rw [e]; omega⟩
theorem mx_ext {f : Nat → Nat} (n : Nat) : ∀ m, n ≤ m → (∀ i, n ≤ i → i < m → f i = 0) → mx f m = mx f n
  | 0, h1, _ => by rw [show n = 0 by omega]
  | m + 1, h1, h2 => by
    by_cases h3 : n = m + 1
    · rw [h3]
    · have e : mx f (m + 1) = max (mx f m) (f m) := rfl
      rw [e, h2 m (by omega) (by omega), mx_ext n m (by omega) (fun i a b => h2 i a (by omega))]
      omega
theorem mx_mul (a : Nat) (f : Nat → Nat) : ∀ n, a * mx f n = mx (fun i => a * f i) n
  | 0 => rfl
  | n + 1 => by
    show a * max (mx f n) (f n) = max (mx (fun i => a * f i) n) (a * f n)
    rw [← mx_mul a f n]
    exact Nat.mul_max_mul_left .. |>.symm
theorem sm_ge {f : Nat → Nat} : ∀ {n i : Nat}, i < n → f i ≤ sm f n
  | 0, i, hi => absurd hi (Nat.not_lt_zero _)
  | n + 1, i, hi => by
    show f i ≤ sm f n + f n
    by_cases h1 : i = n
    · rw [h1]; omega
    · have := sm_ge (f := f) (n := n) (i := i) (by omega)
      omega
theorem sm_blk (f : Nat → Nat) (m : Nat) : ∀ n, sm f (n * m) = sm (fun k => sm (fun x => f (k * m + x)) m) n
  | 0 => by rw [Nat.zero_mul]; rfl
  | n + 1 => by
    show _ = sm (fun k => sm (fun x => f (k * m + x)) m) n + sm (fun x => f (n * m + x)) m
    rw [← sm_blk f m n, Nat.add_mul, Nat.one_mul]
    have key : ∀ a b, sm f (a + b) = sm f a + sm (fun x => f (a + x)) b := by
      intro a b
      induction b with
      | zero => rfl
      | succ b ih =>
        show sm f (a + b) + f (a + b) = sm f a + (sm (fun x => f (a + x)) b + f (a + b))
        rw [ih]
        omega
    exact key _ _
/-! how many READINGS come to a SORT with a MEANING, behind i places -/
def cA (σ : Nat → Nat) (c : Nat → Nat → Nat) (k m : Nat) : Nat := sm (fun o => fol σ o k * c o m) 6
def cX (σ : Nat → Nat) (c : Nat → Nat → Nat) (k m w x : Nat) : Nat := if σ (72 + 5 * w + k) = 1 ∧ σ (112 + 8 * (5 * w + k) + x) = m then cA σ c k x else 0
def cN (σ : Nat → Nat) (p : Option Nat) (c : Nat → Nat → Nat) (k m : Nat) : Nat := if k < 5 then sm (fun w => (may p w).toNat * sm (fun x => cX σ c k m w x) 8) (σ 2) else 0
def cS (σ : Nat → Nat) (l : Nat → Option Nat) : Nat → Nat → Nat → Nat
  | 0 => fun o m => if o = 5 ∧ m = 0 then 1 else 0
  | i + 1 => cN σ (l i) (cS σ l i)
def hre (σ : Nat → Nat) (p : Option Nat) (k : Nat) : Nat := sm (fun w => (may p w).toNat * σ (72 + 5 * w + k)) (σ 2)
def tT (σ : Nat → Nat) (l : Nat → Option Nat) : Nat → Nat → Nat
  | 0 => e5
  | i + 1 => fun k => if k < 5 then sm (fun o => fol σ o k * tT σ l i o) 6 * hre σ (l i) k else 0
theorem cX_sm (H : TgOk σ nm) {c : Nat → Nat → Nat} {k w : Nat} (hk : k < 5) (hw : w < 8) : sm (fun m => sm (fun x => cX σ c k m w x) 8) 8 = σ (72 + 5 * w + k) * sm (fun x => cA σ c k x) 8 := by
  have r1 := H.2.2.2.2.1 (72 + 5 * w + k) (by omega) (by omega)
  rw [sm_swap (fun m x => cX σ c k m w x), sm_mul]
  refine sm_cong 8 (fun x hx => ?_)
  have m8 := H.2.2.2.2.2.2.1 (8 * (5 * w + k) + x) (by omega)
  rw [show 112 + (8 * (5 * w + k) + x) = 112 + 8 * (5 * w + k) + x by omega] at m8
  rw [sm_one (f := fun i => cX σ c k i w x) 8 m8 (fun j _ hne => if_neg (fun z => hne z.2.symm)), mul01 r1]
  unfold cX
  by_cases h1 : σ (72 + 5 * w + k) = 1
  · rw [if_pos h1, if_pos ⟨h1, rfl⟩]
  · rw [if_neg h1, if_neg (fun z => h1 z.1)]
theorem cS_T (H : TgOk σ nm) (l : Nat → Option Nat) : ∀ i o, o < 6 → sm (cS σ l i o) 8 = tT σ l i o
  | 0, o, ho => by
    show sm (fun m => if o = 5 ∧ m = 0 then 1 else 0) 8 = e5 o
    rw [sm_one (i := 0) 8 (by omega) (fun j _ hne => if_neg (fun z => hne z.2))]
    unfold e5
    by_cases h1 : o = 5
    · rw [if_pos h1, if_pos ⟨h1, rfl⟩]
    · rw [if_neg h1, if_neg (fun z => h1 z.1)]
  | i + 1, k, hk => by
    have h8 := H.1.2.2.1
    show sm (cN σ (l i) (cS σ l i) k) 8 = if k < 5 then _ else 0
    by_cases h5 : k < 5
    · rw [if_pos h5, sm_cong (f := cN σ (l i) (cS σ l i) k) (g := fun m => sm (fun w => (may (l i) w).toNat * sm (fun x => cX σ (cS σ l i) k m w x) 8) (σ 2)) 8 (fun m _ => if_pos h5)]
      rw [sm_swap (fun m w => (may (l i) w).toNat * sm (fun x => cX σ (cS σ l i) k m w x) 8)]
      have e1 : sm (fun x => cA σ (cS σ l i) k x) 8 = sm (fun o => fol σ o k * tT σ l i o) 6 := by
        unfold cA
        rw [sm_swap (fun x o => fol σ o k * cS σ l i o x)]
        refine sm_cong 6 (fun o ho => ?_)
        rw [← sm_mul, cS_T H l i o ho]
      unfold hre
      rw [sm_mul]
      refine sm_cong _ (fun w hw => ?_)
      rw [← sm_mul, cX_sm H h5 (by omega), e1]
      rw [← Nat.mul_assoc, Nat.mul_comm]
    · rw [if_neg h5]
      exact sm_zero 8 (fun m _ => if_neg h5)
theorem hre_le (H : TgOk σ nm) (p : Option Nat) {k : Nat} (hk : k < 5) : hre σ p k ≤ 8 := by
  have h8 := H.1.2.2.1
  have := sm_le (f := fun w => (may p w).toNat * σ (72 + 5 * w + k)) (M := 1) (σ 2) (fun w hw => by
    have r1 := H.2.2.2.2.1 (72 + 5 * w + k) (by omega) (by omega)
    show (may p w).toNat * σ (72 + 5 * w + k) ≤ 1
    cases may p w
    · rw [Bool.toNat_false]; omega
    · rw [Bool.toNat_true]; omega)
  unfold hre
  omega
theorem tT_le (H : TgOk σ nm) (l : Nat → Option Nat) : ∀ i, sm (tT σ l i) 6 ≤ 40 ^ i
  | 0 => by
    show sm e5 6 ≤ 1
    decide
  | i + 1 => by
    have ih := tT_le H l i
    have e : sm (tT σ l (i + 1)) 6 = sm (tT σ l (i + 1)) 5 + tT σ l (i + 1) 5 := rfl
    have z : tT σ l (i + 1) 5 = 0 := by
      unfold tT
      rw [if_neg (show ¬ 5 < 5 by decide)]
    have b : sm (tT σ l (i + 1)) 5 ≤ 5 * (8 * sm (tT σ l i) 6) := sm_le 5 (fun k hk => by
      show (if k < 5 then _ else 0) ≤ _
      rw [if_pos hk, Nat.mul_comm]
      refine Nat.mul_le_mul (hre_le H _ hk) ?_
      have key : ∀ n, n ≤ 6 → sm (fun o => fol σ o k * tT σ l i o) n ≤ sm (tT σ l i) n := by
        intro n
        induction n with
        | zero => intro _; exact Nat.le_refl _
        | succ n ih =>
          intro hn
          have a := ih (by omega)
          have f := H.fl (o := n) (by omega) hk
          show sm _ n + fol σ n k * tT σ l i n ≤ sm _ n + tT σ l i n
          rw [mul01 f]
          by_cases h1 : fol σ n k = 1
          · rw [if_pos h1]; omega
          · rw [if_neg h1]; omega
      exact key 6 (by omega))
    rw [e, z, Nat.pow_succ]
    omega
theorem cS_lt (H : TgOk σ nm) (l : Nat → Option Nat) {i o m : Nat} (hi : i ≤ 12) (ho : o < 6) (hm : m < 8) : cS σ l i o m < 18446744073709551616 := by
  have a := sm_ge (f := cS σ l i o) hm
  rw [cS_T H l i o ho] at a
  have b := sm_ge (f := tT σ l i) ho
  have c := tT_le H l i
  have d : 40 ^ i ≤ 40 ^ 12 := Nat.pow_le_pow_right (by decide) hi
  have e : (40 : Nat) ^ 12 < 18446744073709551616 := by decide
  omega
/-! the same, as sets -/
def xS (σ : Nat → Nat) (l : Nat → Option Nat) : Nat → Nat
  | 0 => 1099511627776
  | i + 1 => ors (fun w => if may (l i) w = true then stp σ (xS σ l i) w else 0) (σ 2)
theorem xS_lt (H : TgOk σ nm) (l : Nat → Option Nat) (i : Nat) : xS σ l (i + 1) < 1099511627776 := ors_lt (k := 40) _ (fun w hw => by
  have h8 := H.1.2.2.1
  show (if may (l i) w = true then stp σ (xS σ l i) w else 0) < _
  cases may (l i) w
  · exact Nat.two_pow_pos 40
  · exact stp_lt H (by omega))
theorem xS_le (H : TgOk σ nm) (l : Nat → Option Nat) (i : Nat) : xS σ l i ≤ 1099511627776 := by
  cases i with
  | zero => exact Nat.le_refl _
  | succ i => exact Nat.le_of_lt (xS_lt H l i)
theorem x0_bit : ∀ o, o < 6 → ∀ m, m < 8 → (byo 1099511627776 o).testBit m = decide (o = 5 ∧ m = 0) := by decide
theorem if_bit {p : Prop} [Decidable p] {a m : Nat} : (if p then a else 0).testBit m = true ↔ p ∧ a.testBit m = true := by
  by_cases h1 : p
  · rw [if_pos h1]; exact ⟨fun z => ⟨h1, z⟩, fun z => z.2⟩
  · rw [if_neg h1, Nat.zero_testBit]; exact ⟨fun z => (by cases z), fun z => absurd z.1 h1⟩
theorem pow_bit {a m : Nat} : (2 ^ a).testBit m = true ↔ a = m := by
  rw [Nat.testBit_two_pow]
  exact decide_eq_true_iff
theorem stb_bit {X w k m : Nat} (hk : k < 5) : (stb σ X w k).testBit m = true ↔ σ (72 + 5 * w + k) = 1 ∧ ∃ x, x < 8 ∧ σ (112 + 8 * (5 * w + k) + x) = m ∧ ∃ o, o < 6 ∧ fol σ o k = 1 ∧ (byo X o).testBit x = true := by
  unfold stb
  rw [if_bit, ← img_ors (ain_lt X k), ors_bit]
  constructor
  · intro ⟨h1, x, h2, h3⟩
    obtain ⟨h4, h5⟩ := if_bit.mp h3
    obtain ⟨o, h6, h7⟩ := (ors_bit _ x 6).mp h4
    obtain ⟨h8, h9⟩ := if_bit.mp h7
    exact ⟨h1, x, h2, pow_bit.mp h5, o, h6, h8, h9⟩
  · intro ⟨h1, x, h2, h3, o, h4, h5, h6⟩
    exact ⟨h1, x, h2, if_bit.mpr ⟨(ors_bit _ x 6).mpr ⟨o, h4, if_bit.mpr ⟨h5, h6⟩⟩, pow_bit.mpr h3⟩⟩
theorem cN_ne {p : Option Nat} {c : Nat → Nat → Nat} {k m : Nat} (hk : k < 5) : cN σ p c k m ≠ 0 ↔ ∃ w, w < σ 2 ∧ may p w = true ∧ σ (72 + 5 * w + k) = 1 ∧ ∃ x, x < 8 ∧ σ (112 + 8 * (5 * w + k) + x) = m ∧ ∃ o, o < 6 ∧ fol σ o k ≠ 0 ∧ c o x ≠ 0 := by
  unfold cN
  rw [if_pos hk, sm_ne]
  constructor
  · intro ⟨w, h1, h2⟩
    have h3 := Nat.mul_ne_zero_iff.mp h2
    obtain ⟨x, h4, h5⟩ := (sm_ne 8).mp h3.2
    unfold cX at h5
    by_cases h6 : σ (72 + 5 * w + k) = 1 ∧ σ (112 + 8 * (5 * w + k) + x) = m
    · rw [if_pos h6] at h5
      obtain ⟨o, h7, h8⟩ := (sm_ne 6).mp h5
      have h9 := Nat.mul_ne_zero_iff.mp h8
      refine ⟨w, h1, ?_, h6.1, x, h4, h6.2, o, h7, h9.1, h9.2⟩
      cases hm : may p w
      · rw [hm] at h3; exact absurd rfl h3.1
      · rfl
    · rw [if_neg h6] at h5; exact absurd rfl h5
  · intro ⟨w, h1, h2, h3, x, h4, h5, o, h6, h7, h8⟩
    refine ⟨w, h1, Nat.mul_ne_zero_iff.mpr ⟨by rw [h2]; decide, (sm_ne 8).mpr ⟨x, h4, ?_⟩⟩⟩
    unfold cX
    rw [if_pos ⟨h3, h5⟩]
    exact (sm_ne 6).mpr ⟨o, h6, Nat.mul_ne_zero_iff.mpr ⟨h7, h8⟩⟩
theorem xS_bit (H : TgOk σ nm) (l : Nat → Option Nat) : ∀ i o m, o < 6 → m < 8 → ((byo (xS σ l i) o).testBit m = true ↔ cS σ l i o m ≠ 0)
  | 0, o, m, ho, hm => by
    show (byo 1099511627776 o).testBit m = true ↔ (if o = 5 ∧ m = 0 then 1 else 0) ≠ 0
    rw [x0_bit o ho m hm]
    by_cases h1 : o = 5 ∧ m = 0
    · rw [if_pos h1, decide_eq_true h1]; exact ⟨fun _ => by decide, fun _ => rfl⟩
    · rw [if_neg h1, decide_eq_false h1]; exact ⟨fun z => (by cases z), fun z => absurd rfl z⟩
  | i + 1, k, m, hk, hm => by
    have h8 := H.1.2.2.1
    by_cases h5 : k < 5
    · show _ ↔ cN σ (l i) (cS σ l i) k m ≠ 0
      rw [cN_ne h5, byo_bit, decide_eq_true hm, Bool.true_and]
      show (ors _ (σ 2)).testBit _ = true ↔ _
      rw [ors_bit]
      have key : ∀ w, w < σ 2 → ((stp σ (xS σ l i) w).testBit (8 * k + m) = true ↔ (stb σ (xS σ l i) w k).testBit m = true) := fun w hw => by
        have e : byo (stp σ (xS σ l i) w) k = stb σ (xS σ l i) w k := pk8_byte 5 k (stb_lt H (by omega)) h5
        rw [← e, byo_bit, decide_eq_true hm, Bool.true_and]
      constructor
      · intro ⟨w, h1, h2⟩
        obtain ⟨h3, h4⟩ := if_bit.mp h2
        obtain ⟨q1, x, q2, q3, o, q4, q5, q6⟩ := (stb_bit h5).mp ((key w h1).mp h4)
        exact ⟨w, h1, h3, q1, x, q2, q3, o, q4, by omega, (xS_bit H l i o x q4 q2).mp q6⟩
      · intro ⟨w, h1, h2, q1, x, q2, q3, o, q4, q5, q6⟩
        have f := H.fl (o := o) q4 h5
        exact ⟨w, h1, if_bit.mpr ⟨h2, (key w h1).mpr ((stb_bit h5).mpr ⟨q1, x, q2, q3, o, q4, by omega, (xS_bit H l i o x q4 q2).mpr q6⟩)⟩⟩
    · have e : k = 5 := by omega
      subst e
      rw [byo_big (show xS σ l (i + 1) < 2 ^ (8 * 5) from xS_lt H l i), Nat.zero_testBit]
      exact ⟨fun z => (by cases z), fun z => absurd (show cN σ (l i) (cS σ l i) 5 m = 0 by unfold cN; rw [if_neg (show ¬ 5 < 5 by decide)]) z⟩
/-! at the end -/
def tot (σ : Nat → Nat) (l : Nat → Option Nat) (n : Nat) : Nat := sm (fun k => σ (10 + k) * tT σ l n k) 5
theorem tot_c (H : TgOk σ nm) (l : Nat → Option Nat) (n : Nat) : sm (fun x => if σ (10 + x / 8) = 1 then cS σ l n (x / 8) (x % 8) else 0) 40 = tot σ l n := by
  have e := sm_blk (fun x => if σ (10 + x / 8) = 1 then cS σ l n (x / 8) (x % 8) else 0) 8 5
  rw [show 5 * 8 = 40 from rfl] at e
  rw [e]
  unfold tot
  refine sm_cong 5 (fun k hk => ?_)
  have f := H.2.1 (10 + k) (by omega) (by omega)
  rw [mul01 f, ← cS_T H l n k (by omega)]
  by_cases h1 : σ (10 + k) = 1
  · rw [if_pos h1]
    refine sm_cong 8 (fun m hm => ?_)
    rw [show (k * 8 + m) / 8 = k by omega, show (k * 8 + m) % 8 = m by omega, if_pos h1]
  · rw [if_neg h1]
    refine sm_zero 8 (fun m hm => ?_)
    rw [show (k * 8 + m) / 8 = k by omega, if_neg h1]
theorem meanT (H : TgOk σ nm) (l : Nat → Option Nat) (n : Nat) : ors (fun x => if σ (10 + x / 8) = 1 ∧ cS σ l n (x / 8) (x % 8) ≠ 0 then 2 ^ (x % 8) else 0) 40 = mnt σ (xS σ l n) := by
  refine bits_ext (fun m => ?_)
  unfold mnt
  rw [ors_bit, ors_bit]
  constructor
  · intro ⟨x, h1, h2⟩
    obtain ⟨⟨h3, h4⟩, h5⟩ := if_bit.mp h2
    have h6 := pow_bit.mp h5
    refine ⟨x / 8, by omega, if_bit.mpr ⟨h3, ?_⟩⟩
    rw [← h6]
    exact (xS_bit H l n _ _ (by omega) (by omega)).mpr h4
  · intro ⟨k, h1, h2⟩
    obtain ⟨h3, h4⟩ := if_bit.mp h2
    have m8 : m < 8 := by
      by_cases h5 : m < 8
      · exact h5
      · rw [byo_bit, decide_eq_false h5] at h4
        cases h4
    refine ⟨8 * k + m, by omega, if_bit.mpr ⟨?_, ?_⟩⟩
    · rw [show (8 * k + m) / 8 = k by omega, show (8 * k + m) % 8 = m by omega]
      exact ⟨h3, (xS_bit H l n _ _ (by omega) m8).mp h4⟩
    · exact pow_bit.mpr (by omega)
end TORN
