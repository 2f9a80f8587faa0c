section TORN5
variable {σ : Nat → Nat} {nm : Nat → List Nat} {h h' : Hp}
/-! the row: at each place the first SAYING that reaches the greatest product -/
def bh (σ : Nat → Nat) (X w k : Nat) : Bool := decide (σ (72 + 5 * w + k) = 1) && anyP (fun o => X.testBit o && decide (fol σ o k = 1)) 6
def bm (σ : Nat → Nat) (X w : Nat) (g : Nat → Nat) (k : Nat) : Nat := if bh σ X w k = true then g k else 0
def vw (σ : Nat → Nat) (X : Nat) (p : Option Nat) (g : Nat → Nat) (w : Nat) : Nat := if may p w = true then wgt σ p w * mx (bm σ X w g) 5 else 0
def Mo (X : Nat) (g : Nat → Nat) : Nat := mx (fun o => if X.testBit o = true then g o else 0) 6
theorem bh_t {X w k : Nat} : bh σ X w k = true ↔ σ (72 + 5 * w + k) = 1 ∧ ∃ o, o < 6 ∧ X.testBit o = true ∧ fol σ o k = 1 := by
  unfold bh
  rw [Bool.and_eq_true, decide_eq_true_eq, anyP_t]
  constructor
  · intro ⟨h1, o, h2, h3⟩
    rw [Bool.and_eq_true, decide_eq_true_eq] at h3
    exact ⟨h1, o, h2, h3⟩
  · intro ⟨h1, o, h2, h3⟩
    exact ⟨h1, o, h2, by rw [Bool.and_eq_true, decide_eq_true_eq]; exact h3⟩
theorem Mo_vw (l : Nat → Option Nat) (n d X : Nat) : Mo X (gb σ l n (d + 1)) = mx (vw σ X (l (n - 1 - d)) (gb σ l n d)) (σ 2) := by
  apply Nat.le_antisymm
  · refine (mx_le _).mpr (fun o ho => ?_)
    by_cases h1 : X.testBit o = true
    · show (if X.testBit o = true then _ else 0) ≤ _
      rw [if_pos h1]
      refine (mx_le _).mpr (fun w hw => Nat.le_trans ?_ (mx_ge hw))
      unfold gx vw
      by_cases h2 : may (l (n - 1 - d)) w = true
      · rw [if_pos h2, if_pos h2]
        refine (mx_le _).mpr (fun k hk => ?_)
        unfold gv
        by_cases h3 : σ (72 + 5 * w + k) = 1 ∧ fol σ o k = 1
        · rw [if_pos h3]
          refine Nat.mul_le_mul_left _ ?_
          have := mx_ge (f := bm σ X w (gb σ l n d)) hk
          unfold bm at this ⊢
          rw [if_pos (bh_t.mpr ⟨h3.1, o, ho, h1, h3.2⟩)] at this
          exact this
        · rw [if_neg h3]; exact Nat.zero_le _
      · rw [if_neg h2]; exact Nat.zero_le _
    · show (if X.testBit o = true then _ else 0) ≤ _
      rw [if_neg h1]; exact Nat.zero_le _
  · refine (mx_le _).mpr (fun w hw => ?_)
    unfold vw
    by_cases h2 : may (l (n - 1 - d)) w = true
    · rw [if_pos h2, mx_mul]
      refine (mx_le _).mpr (fun k hk => ?_)
      unfold bm
      by_cases h3 : bh σ X w k = true
      · rw [if_pos h3]
        obtain ⟨q1, o, q2, q3, q4⟩ := bh_t.mp h3
        have a1 := mx_ge (f := gv σ (l (n - 1 - d)) (gb σ l n d) o w) hk
        rw [show gv σ (l (n - 1 - d)) (gb σ l n d) o w k = wgt σ (l (n - 1 - d)) w * gb σ l n d k from if_pos ⟨q1, q4⟩] at a1
        have a2 := mx_ge (f := gx σ (l (n - 1 - d)) (gb σ l n d) o) hw
        rw [show gx σ (l (n - 1 - d)) (gb σ l n d) o w = mx (gv σ (l (n - 1 - d)) (gb σ l n d) o w) 5 from if_pos h2] at a2
        have a3 := mx_ge (f := fun o => if X.testBit o = true then gb σ l n (d + 1) o else 0) q2
        rw [if_pos q3] at a3
        exact Nat.le_trans a1 (Nat.le_trans a2 a3)
      · rw [if_neg h3, Nat.mul_zero]; exact Nat.zero_le _
    · rw [if_neg h2]; exact Nat.zero_le _
def wrd (σ : Nat → Nat) (X : Nat) (p : Option Nat) (g : Nat → Nat) : Nat := fst (fun w => decide (vw σ X p g w = mx (vw σ X p g) (σ 2))) (σ 2)
theorem wrd_ok {X : Nat} {p : Option Nat} {g : Nat → Nat} (h0 : 0 < mx (vw σ X p g) (σ 2)) : wrd σ X p g < σ 2 ∧ vw σ X p g (wrd σ X p g) = mx (vw σ X p g) (σ 2) := by
  obtain ⟨a, b, c⟩ := fst_spec (fun w => decide (vw σ X p g w = mx (vw σ X p g) (σ 2))) (σ 2)
  obtain ⟨i, h1, h2⟩ := mx_at (σ 2) h0
  have l1 : wrd σ X p g < σ 2 := by
    by_cases h3 : wrd σ X p g < σ 2
    · exact h3
    · have := b i (by unfold wrd at h3; omega)
      rw [h2, decide_eq_true rfl] at this
      cases this
  exact ⟨l1, of_decide_eq_true (c l1)⟩
/-- the SORTS and the product behind i places of the row -/
def ch (σ : Nat → Nat) (l : Nat → Option Nat) (n : Nat) : Nat → Nat × Nat
  | 0 => (32, 1)
  | i + 1 => (bts (bh σ (ch σ l n i).1 (wrd σ (ch σ l n i).1 (l i) (gb σ l n (n - 1 - i)))) 5, (ch σ l n i).2 * wgt σ (l i) (wrd σ (ch σ l n i).1 (l i) (gb σ l n (n - 1 - i))))
def wr (σ : Nat → Nat) (l : Nat → Option Nat) (n i : Nat) : Nat := wrd σ (ch σ l n i).1 (l i) (gb σ l n (n - 1 - i))
theorem ch_X (l : Nat → Option Nat) (n i : Nat) : (ch σ l n i).1 < 64 := by
  cases i with
  | zero => show 32 < 64; decide
  | succ i => exact Nat.lt_of_lt_of_le (bts_lt _) (by decide)
theorem Mo_bts {X w : Nat} (g : Nat → Nat) : Mo (bts (bh σ X w) 5) g = mx (bm σ X w g) 5 := by
  unfold Mo
  rw [mx_ext (f := fun o => if (bts (bh σ X w) 5).testBit o = true then g o else 0) 5 6 (by decide) (fun i h1 h2 => by
    rw [bts_bit, decide_eq_false (by omega), Bool.false_and]
    rfl)]
  refine mx_cong 5 (fun k hk => ?_)
  unfold bm
  rw [bts_bit, decide_eq_true hk, Bool.true_and]
theorem ch_0 (l : Nat → Option Nat) (n : Nat) : Mo 32 (gb σ l n n) = gb σ l n n 5 := by
  have e : ∀ o, o < 6 → Nat.testBit 32 o = decide (o = 5) := by decide
  unfold Mo
  have e2 : mx (fun o => if Nat.testBit 32 o = true then gb σ l n n o else 0) 5 = 0 := Nat.le_zero.mp ((mx_le 5).mpr (fun i hi => by
    rw [e i (by omega), decide_eq_false (by omega)]
    exact Nat.le_refl _))
  show max (mx _ 5) _ = _
  rw [e2]
  show max 0 (if Nat.testBit 32 5 = true then _ else 0) = _
  rw [e 5 (by decide)]
  exact Nat.zero_max _
theorem ch_step {l : Nat → Option Nat} {n i : Nat} (hi : i < n) {P : Nat} (hP : 0 < P) (hs : (ch σ l n i).2 * Mo (ch σ l n i).1 (gb σ l n (n - i)) = P) : (ch σ l n i).2 * mx (vw σ (ch σ l n i).1 (l i) (gb σ l n (n - 1 - i))) (σ 2) = P ∧ wr σ l n i < σ 2 ∧ (ch σ l n (i + 1)).2 * Mo (ch σ l n (i + 1)).1 (gb σ l n (n - (i + 1))) = P := by
  have e := Mo_vw (σ := σ) l n (n - 1 - i) (ch σ l n i).1
  rw [show n - 1 - i + 1 = n - i by omega, show n - 1 - (n - 1 - i) = i by omega] at e
  rw [e] at hs
  have h0 : 0 < mx (vw σ (ch σ l n i).1 (l i) (gb σ l n (n - 1 - i))) (σ 2) := by
    by_cases h1 : mx (vw σ (ch σ l n i).1 (l i) (gb σ l n (n - 1 - i))) (σ 2) = 0
    · rw [h1, Nat.mul_zero] at hs; omega
    · omega
  obtain ⟨w1, w2⟩ := wrd_ok h0
  refine ⟨hs, w1, ?_⟩
  have w3 : may (l i) (wr σ l n i) = true := by
    by_cases h1 : may (l i) (wr σ l n i) = true
    · exact h1
    · rw [show vw σ (ch σ l n i).1 (l i) (gb σ l n (n - 1 - i)) (wrd σ (ch σ l n i).1 (l i) (gb σ l n (n - 1 - i))) = 0 from if_neg h1] at w2
      omega
  rw [show vw σ (ch σ l n i).1 (l i) (gb σ l n (n - 1 - i)) (wrd σ (ch σ l n i).1 (l i) (gb σ l n (n - 1 - i))) = wgt σ (l i) (wr σ l n i) * mx (bm σ (ch σ l n i).1 (wr σ l n i) (gb σ l n (n - 1 - i))) 5 from if_pos w3] at w2
  show (ch σ l n i).2 * wgt σ (l i) (wr σ l n i) * Mo (bts (bh σ (ch σ l n i).1 (wr σ l n i)) 5) _ = P
  rw [Mo_bts, show n - (i + 1) = n - 1 - i by omega, Nat.mul_assoc, w2]
  exact hs
theorem ch_inv {l : Nat → Option Nat} {n : Nat} (hP : 0 < gb σ l n n 5) : ∀ i, i ≤ n → (ch σ l n i).2 * Mo (ch σ l n i).1 (gb σ l n (n - i)) = gb σ l n n 5
  | 0, _ => by
    show 1 * Mo 32 (gb σ l n n) = _
    rw [Nat.one_mul, ch_0]
  | i + 1, hi => (ch_step (by omega) hP (ch_inv hP i (by omega))).2.2
/-! the class -/
theorem c_sortsB20 {X w k b : Nat} (T : TgRep h 7 σ nm) (h7 : h.2.2 133 7 = 7) (H : TgOk σ nm) (hX : X < 64) (hw : w < 8) (hk : k < 5) (kk : Int32 → Hp → Option (Int32 × Hp)) : itr3 (F_X8_sortsBehind_20 (nI X) (nI w) (nI k) kk) N0 (nI b) (nI 0) h = kk (nI (b ||| if bh σ X w k = true then 2 ^ k else 0)) h := by
  have ra := c_readsAs (w := w) (k := k) T H hw hk
  by_cases hr : σ (72 + 5 * w + k) = 1
  · have eb : ∀ n, (if anyP (fun o => X.testBit o && decide (fol σ o k = 1)) (n + 1) = true then 2 ^ k else 0) = (if anyP (fun o => X.testBit o && decide (fol σ o k = 1)) n = true then 2 ^ k else 0) ||| (if (X.testBit n && decide (fol σ n k = 1)) = true then 2 ^ k else 0) := fun n => by
      by_cases a1 : anyP (fun o => X.testBit o && decide (fol σ o k = 1)) n = true
      · obtain ⟨o, h1, h2⟩ := anyP_t.mp a1
        rw [if_pos a1, if_pos (anyP_t.mpr ⟨o, by omega, h2⟩)]
        by_cases a2 : (X.testBit n && decide (fol σ n k = 1)) = true
        · rw [if_pos a2, Nat.or_self]
        · rw [if_neg a2, Nat.or_zero]
      · rw [if_neg a1, Nat.zero_or]
        by_cases a2 : (X.testBit n && decide (fol σ n k = 1)) = true
        · rw [if_pos a2, if_pos (anyP_t.mpr ⟨n, by omega, a2⟩)]
        · rw [if_neg a2, if_neg]
          intro z
          obtain ⟨o, h1, h2⟩ := anyP_t.mp z
          by_cases h3 : o = n
          · rw [h3] at h2; exact a2 h2
          · exact a1 (anyP_t.mpr ⟨o, by omega, h2⟩)
    refine sq3 6 (fun o => nI (b ||| if anyP (fun o => X.testBit o && decide (fol σ o k = 1)) o = true then 2 ^ k else 0)) (fun o => nI o) (fun _ => h) (fun self => ?_) (fun self o ho => ?_) (by omega) (by rw [if_neg (fun z => by obtain ⟨o, h1, _⟩ := anyP_t.mp z; omega), Nat.or_zero]) rfl rfl
    · unfold F_X8_sortsBehind_20 bh
      simp (disch := omega) only [li_0, li_1, li_2, li_3, li_4, li_5, li_6, li_7, li_8, li_9, li_10, li_12, li_13, li_14, li_15, li_16, li_20, li_24, li_25, li_31, li_32, li_40, li_48, li_54, li_56, li_64, li_72, li_97, li_99, li_100, li_112, li_122, li_144, li_145, li_155, li_157, li_200, li_216, li_255, li_256, li_432, li_437, li_438, li_462, li_463, li_713, li_900, li_940, lL_0, lL_1, lL_255, lL_1099511627776, neg_1, ltT, ltF, leT, leF, eqT, eqF, ltMT, ltMF, leMT, leMF, eqMF, eqMF', addM, inbT, clp, nI_add, subN, pk_mul, nzT, remN, shl1, bitN, bit0, bit1, lcE, lcLE, lcLT, LleT, LleF, LltT, LltF, LeqT, LeqF, ↓bndS, ↓bnvS, ↓lt_s1, bndS, bnvS, eq_self, ↓reduceIte, hr, decide_true, Bool.true_and]
    · have mf := c_mayFollow (o := o) (k := k) T H ho hk
      unfold F_X8_sortsBehind_20
      rw [eb o, ← Nat.or_assoc]
      cases c1 : X.testBit o
      · simp (disch := omega) only [li_0, li_1, li_2, li_3, li_4, li_5, li_6, li_7, li_8, li_9, li_10, li_12, li_13, li_14, li_15, li_16, li_20, li_24, li_25, li_31, li_32, li_40, li_48, li_54, li_56, li_64, li_72, li_97, li_99, li_100, li_112, li_122, li_144, li_145, li_155, li_157, li_200, li_216, li_255, li_256, li_432, li_437, li_438, li_462, li_463, li_713, li_900, li_940, lL_0, lL_1, lL_255, lL_1099511627776, neg_1, ltT, ltF, leT, leF, eqT, eqF, ltMT, ltMF, leMT, leMF, eqMF, eqMF', addM, inbT, clp, nI_add, subN, pk_mul, nzT, remN, shl1, bitN, bit0, bit1, lcE, lcLE, lcLT, LleT, LleF, LltT, LltF, LeqT, LeqF, ↓bndS, ↓bnvS, ↓lt_s1, bndS, bnvS, eq_self, ↓reduceIte, h7, isO87, ra, hr, decide_true, Bool.true_eq_false, c1, Bool.false_and, Bool.false_eq_true, Nat.or_zero]
      · by_cases c2 : fol σ o k = 1
        · simp (disch := omega) only [li_0, li_1, li_2, li_3, li_4, li_5, li_6, li_7, li_8, li_9, li_10, li_12, li_13, li_14, li_15, li_16, li_20, li_24, li_25, li_31, li_32, li_40, li_48, li_54, li_56, li_64, li_72, li_97, li_99, li_100, li_112, li_122, li_144, li_145, li_155, li_157, li_200, li_216, li_255, li_256, li_432, li_437, li_438, li_462, li_463, li_713, li_900, li_940, lL_0, lL_1, lL_255, lL_1099511627776, neg_1, ltT, ltF, leT, leF, eqT, eqF, ltMT, ltMF, leMT, leMF, eqMF, eqMF', addM, inbT, clp, nI_add, subN, pk_mul, nzT, remN, shl1, bitN, bit0, bit1, lcE, lcLE, lcLT, LleT, LleF, LltT, LltF, LeqT, LeqF, ↓bndS, ↓bnvS, ↓lt_s1, bndS, bnvS, eq_self, ↓reduceIte, h7, isO87, ra, hr, decide_true, Bool.true_eq_false, c1, Bool.true_and, mf, c2, fa_or]
        · simp (disch := omega) only [li_0, li_1, li_2, li_3, li_4, li_5, li_6, li_7, li_8, li_9, li_10, li_12, li_13, li_14, li_15, li_16, li_20, li_24, li_25, li_31, li_32, li_40, li_48, li_54, li_56, li_64, li_72, li_97, li_99, li_100, li_112, li_122, li_144, li_145, li_155, li_157, li_200, li_216, li_255, li_256, li_432, li_437, li_438, li_462, li_463, li_713, li_900, li_940, lL_0, lL_1, lL_255, lL_1099511627776, neg_1, ltT, ltF, leT, leF, eqT, eqF, ltMT, ltMF, leMT, leMF, eqMF, eqMF', addM, inbT, clp, nI_add, subN, pk_mul, nzT, remN, shl1, bitN, bit0, bit1, lcE, lcLE, lcLT, LleT, LleF, LltT, LltF, LeqT, LeqF, ↓bndS, ↓bnvS, ↓lt_s1, bndS, bnvS, eq_self, ↓reduceIte, h7, isO87, ra, hr, decide_true, Bool.true_eq_false, c1, Bool.true_and, mf, c2, decide_false, Bool.false_eq_true, Nat.or_zero]
  · have e : bh σ X w k = false := by unfold bh; rw [decide_eq_false hr, Bool.false_and]
    rw [e, if_neg (by decide), Nat.or_zero]
    refine sq3 0 (fun o => nI b) (fun o => nI o) (fun _ => h) (fun self => ?_) (fun self o ho => by omega) (by omega) rfl rfl rfl
    unfold F_X8_sortsBehind_20
    simp (disch := omega) only [li_0, li_1, li_2, li_3, li_4, li_5, li_6, li_7, li_8, li_9, li_10, li_12, li_13, li_14, li_15, li_16, li_20, li_24, li_25, li_31, li_32, li_40, li_48, li_54, li_56, li_64, li_72, li_97, li_99, li_100, li_112, li_122, li_144, li_145, li_155, li_157, li_200, li_216, li_255, li_256, li_432, li_437, li_438, li_462, li_463, li_713, li_900, li_940, lL_0, lL_1, lL_255, lL_1099511627776, neg_1, ltT, ltF, leT, leF, eqT, eqF, ltMT, ltMF, leMT, leMF, eqMF, eqMF', addM, inbT, clp, nI_add, subN, pk_mul, nzT, remN, shl1, bitN, bit0, bit1, lcE, lcLE, lcLT, LleT, LleF, LltT, LltF, LeqT, LeqF, ↓bndS, ↓bnvS, ↓lt_s1, bndS, bnvS, eq_self, ↓reduceIte, h7, isO87, ra, hr, decide_false]
theorem bh_s0 (H : TgOk σ nm) {X w k : Nat} (hw : w < 8) (h1 : σ 0 ≤ k) (h2 : k < 5) : bh σ X w k = false := by
  have := (H.2.2.1 k h1 h2).2.2.2 w hw
  unfold bh
  rw [this]
  rfl
theorem bts_bh (H : TgOk σ nm) {X w : Nat} (hw : w < 8) : bts (bh σ X w) (σ 0) = bts (bh σ X w) 5 := (ors_zero (f := fun b => if bh σ X w b = true then 2 ^ b else 0) (σ 0) 5 H.1.1 (fun i h1 h2 => by
  show (if bh σ X w i = true then 2 ^ i else 0) = 0
  rw [bh_s0 H hw h1 h2]
  rfl)).symm
theorem c_sortsBehind {X w : Nat} (T : TgRep h 7 σ nm) (h7 : h.2.2 133 7 = 7) (H : TgOk σ nm) (hX : X < 64) (hw : w < 8) : f_X8_sortsBehind (nI X) (nI w) h = some (nI (bts (bh σ X w) 5), h) := by
  have s5 := H.1.1
  have T0 := T.1.1
  unfold f_X8_sortsBehind
  refine sq3 (σ 0) (fun k => nI (bts (bh σ X w) k)) (fun k => nI k) (fun _ => h) (fun self => ?_) (fun self k hk => ?_) (by omega) rfl rfl rfl
  · unfold F_X8_sortsBehind_5
    simp (disch := omega) only [li_0, li_1, li_2, li_3, li_4, li_5, li_6, li_7, li_8, li_9, li_10, li_12, li_13, li_14, li_15, li_16, li_20, li_24, li_25, li_31, li_32, li_40, li_48, li_54, li_56, li_64, li_72, li_97, li_99, li_100, li_112, li_122, li_144, li_145, li_155, li_157, li_200, li_216, li_255, li_256, li_432, li_437, li_438, li_462, li_463, li_713, li_900, li_940, lL_0, lL_1, lL_255, lL_1099511627776, neg_1, ltT, ltF, leT, leF, eqT, eqF, ltMT, ltMF, leMT, leMF, eqMF, eqMF', addM, inbT, clp, nI_add, subN, pk_mul, nzT, remN, shl1, bitN, bit0, bit1, lcE, lcLE, lcLT, LleT, LleF, LltT, LltF, LeqT, LeqF, ↓bndS, ↓bnvS, ↓lt_s1, bndS, bnvS, eq_self, ↓reduceIte, h7, isO87, T0]
    rw [bts_bh H hw]
  · have e := c_sortsB20 (X := X) (w := w) (k := k) (b := bts (bh σ X w) k) T h7 H hX hw (by omega) (fun v18 h17 => self v18 (nI k + nI 1) h17)
    unfold F_X8_sortsBehind_5
    simp (disch := omega) only [li_0, li_1, li_2, li_3, li_4, li_5, li_6, li_7, li_8, li_9, li_10, li_12, li_13, li_14, li_15, li_16, li_20, li_24, li_25, li_31, li_32, li_40, li_48, li_54, li_56, li_64, li_72, li_97, li_99, li_100, li_112, li_122, li_144, li_145, li_155, li_157, li_200, li_216, li_255, li_256, li_432, li_437, li_438, li_462, li_463, li_713, li_900, li_940, lL_0, lL_1, lL_255, lL_1099511627776, neg_1, ltT, ltF, leT, leF, eqT, eqF, ltMT, ltMF, leMT, leMF, eqMF, eqMF', addM, inbT, clp, nI_add, subN, pk_mul, nzT, remN, shl1, bitN, bit0, bit1, lcE, lcLE, lcLT, LleT, LleF, LltT, LltF, LeqT, LeqF, ↓bndS, ↓bnvS, ↓lt_s1, bndS, bnvS, eq_self, ↓reduceIte, h7, isO87, T0]
    rw [nI_add] at e
    rw [bts_s]
    exact e
def hit (σ : Nat → Nat) (X s P : Nat) (p : Option Nat) (g : Nat → Nat) (w : Nat) : Bool := may p w && anyP (fun k => bh σ X w k && decide (s * wgt σ p w * g k = P)) 5
theorem hit_vw {X s P : Nat} {p : Option Nat} {g : Nat → Nat} (hP : 0 < P) (hs : s * mx (vw σ X p g) (σ 2) = P) {w : Nat} (hw : w < σ 2) : hit σ X s P p g w = decide (vw σ X p g w = mx (vw σ X p g) (σ 2)) := by
  have s0 : 0 < s := by
    by_cases h1 : s = 0
    · rw [h1, Nat.zero_mul] at hs; omega
    · omega
  have le := mx_ge (f := vw σ X p g) hw
  have M0 : 0 < mx (vw σ X p g) (σ 2) := by
    by_cases h1 : mx (vw σ X p g) (σ 2) = 0
    · rw [h1, Nat.mul_zero] at hs; omega
    · omega
  have key : hit σ X s P p g w = true ↔ vw σ X p g w = mx (vw σ X p g) (σ 2) := by
    unfold hit
    rw [Bool.and_eq_true, anyP_t]
    constructor
    · intro ⟨h1, k, h2, h3⟩
      rw [Bool.and_eq_true, decide_eq_true_eq] at h3
      have a := mx_ge (f := bm σ X w g) h2
      rw [show bm σ X w g k = g k from if_pos h3.1] at a
      have b : wgt σ p w * g k = mx (vw σ X p g) (σ 2) := Nat.eq_of_mul_eq_mul_left s0 (by rw [← Nat.mul_assoc, h3.2, hs])
      have c : vw σ X p g w = wgt σ p w * mx (bm σ X w g) 5 := if_pos h1
      have d : wgt σ p w * g k ≤ wgt σ p w * mx (bm σ X w g) 5 := Nat.mul_le_mul_left _ a
      omega
    · intro z
      have h1 : may p w = true := by
        by_cases h1 : may p w = true
        · exact h1
        · rw [show vw σ X p g w = 0 from if_neg h1] at z; omega
      have c : vw σ X p g w = wgt σ p w * mx (bm σ X w g) 5 := if_pos h1
      have m0 : 0 < mx (bm σ X w g) 5 := by
        by_cases h2 : mx (bm σ X w g) 5 = 0
        · rw [h2, Nat.mul_zero] at c; omega
        · omega
      obtain ⟨k, h2, h3⟩ := mx_at 5 m0
      have h4 : bh σ X w k = true := by
        by_cases h4 : bh σ X w k = true
        · exact h4
        · rw [show bm σ X w g k = 0 from if_neg h4] at h3; omega
      rw [show bm σ X w g k = g k from if_pos h4] at h3
      refine ⟨h1, k, h2, ?_⟩
      rw [Bool.and_eq_true, decide_eq_true_eq]
      refine ⟨h4, ?_⟩
      rw [h3, Nat.mul_assoc, ← c, z, hs]
  exact Bool.eq_iff_iff.mpr (by rw [key, decide_eq_true_eq])
theorem fst_cong {p q : Nat → Bool} : ∀ n, (∀ i, i < n → p i = q i) → fst p n = fst q n
  | 0, _ => rfl
  | n + 1, hpq => by
    unfold fst
    rw [fst_cong n (fun i hi => hpq i (by omega)), hpq n (by omega)]
end TORN5
