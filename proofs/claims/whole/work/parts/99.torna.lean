section TORNA
variable {σ : Nat → Nat} {nm : Nat → List Nat} {h h' : Hp}
theorem t32 : ∀ o, o < 6 → Nat.testBit 32 o = decide (o = 5) := by decide
/-- the SORTS behind i places, as the reference has them -/
def XR (X i : Nat) (x1 : Int32) : Prop := (i = 0 ∧ X = 32) ∨ (0 < i ∧ X < 32 ∧ x1 = nI X)
theorem m_comesFrom {l : Nat → Option Nat} {n i k X : Nat} {x1 : Int32} (B : TM σ l n h) (H : TgOk σ nm) (hi : i < 12) (hk : k < 5) (hX : XR X i x1) : f_X13_comesFrom x1 (nI i) (nI k) h = some (nI (anyP (fun o => X.testBit o && decide (fol σ o k = 1)) 6).toNat, h) := by
  unfold f_X13_comesFrom
  rcases hX with ⟨rfl, rfl⟩ | ⟨h0, h1, rfl⟩
  · have m1 := B.1 (5 + k) (by omega)
    have f1 := H.2.1 (5 + k) (by omega) (by omega)
    have e : anyP (fun o => Nat.testBit 32 o && decide (fol σ o k = 1)) 6 = decide (σ (5 + k) = 1) := by
      rw [Bool.eq_iff_iff, anyP_t, decide_eq_true_eq]
      constructor
      · intro ⟨o, q1, q2⟩
        rw [t32 o q1, Bool.and_eq_true, decide_eq_true_eq, decide_eq_true_eq] at q2
        have := q2.2
        rw [q2.1] at this
        exact this
      · intro z
        exact ⟨5, by decide, by rw [t32 5 (by decide), Bool.and_eq_true, decide_eq_true_eq, decide_eq_true_eq]; exact ⟨rfl, z⟩⟩
    rw [e]
    by_cases h2 : σ (5 + k) = 1
    · simp (disch := omega) only [li_0, li_1, li_2, li_3, li_4, li_5, li_6, li_7, li_8, li_9, li_10, li_12, li_13, li_14, li_15, li_16, li_20, li_24, li_25, li_31, li_32, li_40, li_48, li_54, li_56, li_64, li_72, li_97, li_99, li_100, li_112, li_122, li_144, li_145, li_155, li_157, li_200, li_216, li_255, li_256, li_432, li_437, li_438, li_462, li_463, li_713, li_900, li_940, lL_0, lL_1, lL_255, lL_1099511627776, neg_1, ltT, ltF, leT, leF, eqT, eqF, ltMT, ltMF, leMT, leMF, eqMF, eqMF', addM, inbT, clp, nI_add, subN, pk_mul, nzT, remN, shl1, bitN, bit0, bit1, lcE, lcLE, lcLT, LleT, LleF, LltT, LltF, LeqT, LeqF, ↓bndS, ↓bnvS, ↓lt_s1, bndS, bnvS, eq_self, ↓reduceIte, m1, h2, decide_true]
      rfl
    · simp (disch := omega) only [li_0, li_1, li_2, li_3, li_4, li_5, li_6, li_7, li_8, li_9, li_10, li_12, li_13, li_14, li_15, li_16, li_20, li_24, li_25, li_31, li_32, li_40, li_48, li_54, li_56, li_64, li_72, li_97, li_99, li_100, li_112, li_122, li_144, li_145, li_155, li_157, li_200, li_216, li_255, li_256, li_432, li_437, li_438, li_462, li_463, li_713, li_900, li_940, lL_0, lL_1, lL_255, lL_1099511627776, neg_1, ltT, ltF, leT, leF, eqT, eqF, ltMT, ltMF, leMT, leMF, eqMF, eqMF', addM, inbT, clp, nI_add, subN, pk_mul, nzT, remN, shl1, bitN, bit0, bit1, lcE, lcLE, lcLT, LleT, LleF, LltT, LltF, LeqT, LeqF, ↓bndS, ↓bnvS, ↓lt_s1, bndS, bnvS, eq_self, ↓reduceIte, m1, h2, decide_false]
      rfl
  · have L := allLoop (h := h) (F := F_X13_comesFrom_25 (nI X) (nI k) (fun h8 => some (nI 1, h8)) (fun h9 => some (nI 0, h9))) (k0 := some (nI 1, h)) (k1 := some (nI 0, h)) (fun o => !(X.testBit o && decide (fol σ o k = 1))) 0 5 (fun self => by
        unfold F_X13_comesFrom_25
        simp (disch := omega) only [li_0, li_1, li_2, li_3, li_4, li_5, li_6, li_7, li_8, li_9, li_10, li_12, li_13, li_14, li_15, li_16, li_20, li_24, li_25, li_31, li_32, li_40, li_48, li_54, li_56, li_64, li_72, li_97, li_99, li_100, li_112, li_122, li_144, li_145, li_155, li_157, li_200, li_216, li_255, li_256, li_432, li_437, li_438, li_462, li_463, li_713, li_900, li_940, lL_0, lL_1, lL_255, lL_1099511627776, neg_1, ltT, ltF, leT, leF, eqT, eqF, ltMT, ltMF, leMT, leMF, eqMF, eqMF', addM, inbT, clp, nI_add, subN, pk_mul, nzT, remN, shl1, bitN, bit0, bit1, lcE, lcLE, lcLT, LleT, LleF, LltT, LltF, LeqT, LeqF, ↓bndS, ↓bnvS, ↓lt_s1, bndS, bnvS, eq_self, ↓reduceIte]) (fun self o ho => by
        have mh := m_has (h := h) (a := X) (k := o) (by omega) (by omega)
        have m1 := B.1 (15 + 5 * o + k) (by omega)
        have f1 := H.2.1 (15 + 5 * o + k) (by omega) (by omega)
        unfold F_X13_comesFrom_25
        rw [Nat.zero_add, fol_n (σ := σ) ho]
        cases c1 : X.testBit o
        · simp (disch := omega) only [li_0, li_1, li_2, li_3, li_4, li_5, li_6, li_7, li_8, li_9, li_10, li_12, li_13, li_14, li_15, li_16, li_20, li_24, li_25, li_31, li_32, li_40, li_48, li_54, li_56, li_64, li_72, li_97, li_99, li_100, li_112, li_122, li_144, li_145, li_155, li_157, li_200, li_216, li_255, li_256, li_432, li_437, li_438, li_462, li_463, li_713, li_900, li_940, lL_0, lL_1, lL_255, lL_1099511627776, neg_1, ltT, ltF, leT, leF, eqT, eqF, ltMT, ltMF, leMT, leMF, eqMF, eqMF', addM, inbT, clp, nI_add, subN, pk_mul, nzT, remN, shl1, bitN, bit0, bit1, lcE, lcLE, lcLT, LleT, LleF, LltT, LltF, LeqT, LeqF, ↓bndS, ↓bnvS, ↓lt_s1, bndS, bnvS, eq_self, ↓reduceIte, mh, c1, Bool.false_and, Bool.not_false]
        · by_cases c2 : σ (15 + 5 * o + k) = 1
          · simp (disch := omega) only [li_0, li_1, li_2, li_3, li_4, li_5, li_6, li_7, li_8, li_9, li_10, li_12, li_13, li_14, li_15, li_16, li_20, li_24, li_25, li_31, li_32, li_40, li_48, li_54, li_56, li_64, li_72, li_97, li_99, li_100, li_112, li_122, li_144, li_145, li_155, li_157, li_200, li_216, li_255, li_256, li_432, li_437, li_438, li_462, li_463, li_713, li_900, li_940, lL_0, lL_1, lL_255, lL_1099511627776, neg_1, ltT, ltF, leT, leF, eqT, eqF, ltMT, ltMF, leMT, leMF, eqMF, eqMF', addM, inbT, clp, nI_add, subN, pk_mul, nzT, remN, shl1, bitN, bit0, bit1, lcE, lcLE, lcLT, LleT, LleF, LltT, LltF, LeqT, LeqF, ↓bndS, ↓bnvS, ↓lt_s1, bndS, bnvS, eq_self, ↓reduceIte, mh, c1, Bool.true_and, Bool.true_eq_false, m1, c2, decide_true, Bool.not_true, Bool.false_eq_true]
          · simp (disch := omega) only [li_0, li_1, li_2, li_3, li_4, li_5, li_6, li_7, li_8, li_9, li_10, li_12, li_13, li_14, li_15, li_16, li_20, li_24, li_25, li_31, li_32, li_40, li_48, li_54, li_56, li_64, li_72, li_97, li_99, li_100, li_112, li_122, li_144, li_145, li_155, li_157, li_200, li_216, li_255, li_256, li_432, li_437, li_438, li_462, li_463, li_713, li_900, li_940, lL_0, lL_1, lL_255, lL_1099511627776, neg_1, ltT, ltF, leT, leF, eqT, eqF, ltMT, ltMF, leMT, leMF, eqMF, eqMF', addM, inbT, clp, nI_add, subN, pk_mul, nzT, remN, shl1, bitN, bit0, bit1, lcE, lcLE, lcLT, LleT, LleF, LltT, LltF, LeqT, LeqF, ↓bndS, ↓bnvS, ↓lt_s1, bndS, bnvS, eq_self, ↓reduceIte, mh, c1, Bool.true_and, Bool.true_eq_false, m1, c2, decide_false, Bool.not_false]) (by omega)
    have e : allP (fun o => !(X.testBit o && decide (fol σ o k = 1))) 0 5 = !(anyP (fun o => X.testBit o && decide (fol σ o k = 1)) 6) := by
      have x5 : X.testBit 5 = false := Nat.testBit_lt_two_pow (show X < 2 ^ 5 from h1)
      rw [Bool.eq_iff_iff, allP_t, Bool.not_eq_true']
      constructor
      · intro z
        refine Bool.eq_false_iff.mpr (fun q => ?_)
        obtain ⟨o, q1, q2⟩ := anyP_t.mp q
        by_cases q3 : o = 5
        · rw [q3, x5, Bool.false_and] at q2; cases q2
        · have := z o (by omega)
          rw [Nat.zero_add, q2] at this
          cases this
      · intro z o ho
        rw [Nat.zero_add]
        cases q : (X.testBit o && decide (fol σ o k = 1))
        · rfl
        · rw [anyP_t.mpr ⟨o, by omega, q⟩] at z
          cases z
    rw [e] at L
    rw [li_0, li_1, if_neg (fun z => by rw [nI_eq (by omega) (by omega)] at z; omega), L]
    cases anyP (fun o => X.testBit o && decide (fol σ o k = 1)) 6 <;> rfl
theorem m_l140 {l : Nat → Option Nat} {n i w X : Nat} {g : Nat → Nat} {x1 x2 x8 x9 : Int32} {x3 x6 : Int64} (B : TM σ l n h) (H : TgOk σ nm) (hi : i < n) (hn : n ≤ 12) (hw : w < 8) (hX : XR X i x2) (hg : ∀ k, k < 5 → h.2.1 182 (5 * (i + 1) + k) = lN (g k) ∧ g k < 4611686018427387904) (kk : Int64 → Int32 → Hp → Option Hp) : itr4 (F_X13_likely_140 x1 x2 x3 (nI i) x6 x8 x9 (nI w) kk) N0 (lN 0) (nI 0) (nI 0) h = kk (lN (mx (bm σ X w g) 5)) (nI (bts (bh σ X w) 5)) h := by
  refine sq4 5 (fun k => lN (mx (bm σ X w g) k)) (fun k => nI (bts (bh σ X w) k)) (fun k => nI k) (fun _ => h) (fun self => ?_) (fun self k hk => ?_) (by omega) rfl rfl rfl rfl
  · unfold F_X13_likely_140
    simp (disch := omega) only [li_0, li_1, li_2, li_3, li_4, li_5, li_6, li_7, li_8, li_9, li_10, li_12, li_13, li_14, li_15, li_16, li_20, li_24, li_25, li_31, li_32, li_40, li_48, li_54, li_56, li_64, li_72, li_97, li_99, li_100, li_112, li_122, li_144, li_145, li_155, li_157, li_200, li_216, li_255, li_256, li_432, li_437, li_438, li_462, li_463, li_713, li_900, li_940, lL_0, lL_1, lL_255, lL_1099511627776, neg_1, ltT, ltF, leT, leF, eqT, eqF, ltMT, ltMF, leMT, leMF, eqMF, eqMF', addM, inbT, clp, nI_add, subN, pk_mul, nzT, remN, shl1, bitN, bit0, bit1, lcE, lcLE, lcLT, LleT, LleF, LltT, LltF, LeqT, LeqF, ↓bndS, ↓bnvS, ↓lt_s1, bndS, bnvS, eq_self, ↓reduceIte]
  · have em : mx (bm σ X w g) (k + 1) = max (mx (bm σ X w g) k) (bm σ X w g k) := rfl
    have m1 := B.1 (72 + 5 * w + k) (by omega)
    have f1 := H.2.2.2.2.1 (72 + 5 * w + k) (by omega) (by omega)
    have cf := m_comesFrom (X := X) (k := k) (x1 := x2) B H (by omega) hk hX
    obtain ⟨gk, gl⟩ := hg k hk
    have ml : mx (bm σ X w g) k < 4611686018427387904 := by
      have := (mx_le (f := bm σ X w g) (c := 4611686018427387903) k).mpr (fun j hj => by
        have := (hg j (by omega)).2
        unfold bm
        by_cases h1 : bh σ X w j = true
        · rw [if_pos h1]; omega
        · rw [if_neg h1]; omega)
      omega
    have cmp := LleN gl ml
    unfold F_X13_likely_140
    rw [em, bts_s]
    by_cases h1 : σ (72 + 5 * w + k) = 1
    · cases h2 : anyP (fun o => X.testBit o && decide (fol σ o k = 1)) 6
      · have eb : bh σ X w k = false := by unfold bh; rw [h2, Bool.and_false]
        have ev : bm σ X w g k = 0 := if_neg (by rw [eb]; decide)
        rw [eb, ev, Nat.max_zero]
        simp (disch := omega) only [li_0, li_1, li_2, li_3, li_4, li_5, li_6, li_7, li_8, li_9, li_10, li_12, li_13, li_14, li_15, li_16, li_20, li_24, li_25, li_31, li_32, li_40, li_48, li_54, li_56, li_64, li_72, li_97, li_99, li_100, li_112, li_122, li_144, li_145, li_155, li_157, li_200, li_216, li_255, li_256, li_432, li_437, li_438, li_462, li_463, li_713, li_900, li_940, lL_0, lL_1, lL_255, lL_1099511627776, neg_1, ltT, ltF, leT, leF, eqT, eqF, ltMT, ltMF, leMT, leMF, eqMF, eqMF', addM, inbT, clp, nI_add, subN, pk_mul, nzT, remN, shl1, bitN, bit0, bit1, lcE, lcLE, lcLT, LleT, LleF, LltT, LltF, LeqT, LeqF, ↓bndS, ↓bnvS, ↓lt_s1, bndS, bnvS, eq_self, ↓reduceIte, m1, h1, cf, h2, Bool.false_eq_true, Nat.or_zero]
      · have eb : bh σ X w k = true := by unfold bh; rw [h2, Bool.and_true]; exact decide_eq_true h1
        have ev : bm σ X w g k = g k := if_pos eb
        rw [eb, ev]
        by_cases h3 : g k ≤ mx (bm σ X w g) k
        · simp (disch := omega) only [li_0, li_1, li_2, li_3, li_4, li_5, li_6, li_7, li_8, li_9, li_10, li_12, li_13, li_14, li_15, li_16, li_20, li_24, li_25, li_31, li_32, li_40, li_48, li_54, li_56, li_64, li_72, li_97, li_99, li_100, li_112, li_122, li_144, li_145, li_155, li_157, li_200, li_216, li_255, li_256, li_432, li_437, li_438, li_462, li_463, li_713, li_900, li_940, lL_0, lL_1, lL_255, lL_1099511627776, neg_1, ltT, ltF, leT, leF, eqT, eqF, ltMT, ltMF, leMT, leMF, eqMF, eqMF', addM, inbT, clp, nI_add, subN, pk_mul, nzT, remN, shl1, bitN, bit0, bit1, lcE, lcLE, lcLT, LleT, LleF, LltT, LltF, LeqT, LeqF, ↓bndS, ↓bnvS, ↓lt_s1, bndS, bnvS, eq_self, ↓reduceIte, m1, h1, cf, h2, Bool.true_eq_false, gk, cmp, h3, fa_or, show ((65 : Int32)) = nI 65 from rfl]
          rw [Nat.max_eq_left h3]
        · simp (disch := omega) only [li_0, li_1, li_2, li_3, li_4, li_5, li_6, li_7, li_8, li_9, li_10, li_12, li_13, li_14, li_15, li_16, li_20, li_24, li_25, li_31, li_32, li_40, li_48, li_54, li_56, li_64, li_72, li_97, li_99, li_100, li_112, li_122, li_144, li_145, li_155, li_157, li_200, li_216, li_255, li_256, li_432, li_437, li_438, li_462, li_463, li_713, li_900, li_940, lL_0, lL_1, lL_255, lL_1099511627776, neg_1, ltT, ltF, leT, leF, eqT, eqF, ltMT, ltMF, leMT, leMF, eqMF, eqMF', addM, inbT, clp, nI_add, subN, pk_mul, nzT, remN, shl1, bitN, bit0, bit1, lcE, lcLE, lcLT, LleT, LleF, LltT, LltF, LeqT, LeqF, ↓bndS, ↓bnvS, ↓lt_s1, bndS, bnvS, eq_self, ↓reduceIte, m1, h1, cf, h2, Bool.true_eq_false, gk, cmp, h3, fa_or, show ((65 : Int32)) = nI 65 from rfl]
          rw [Nat.max_eq_right (Nat.le_of_not_le h3)]
    · have eb : bh σ X w k = false := by unfold bh; rw [decide_eq_false h1, Bool.false_and]
      have ev : bm σ X w g k = 0 := if_neg (by rw [eb]; decide)
      rw [eb, ev, Nat.max_zero]
      simp (disch := omega) only [li_0, li_1, li_2, li_3, li_4, li_5, li_6, li_7, li_8, li_9, li_10, li_12, li_13, li_14, li_15, li_16, li_20, li_24, li_25, li_31, li_32, li_40, li_48, li_54, li_56, li_64, li_72, li_97, li_99, li_100, li_112, li_122, li_144, li_145, li_155, li_157, li_200, li_216, li_255, li_256, li_432, li_437, li_438, li_462, li_463, li_713, li_900, li_940, lL_0, lL_1, lL_255, lL_1099511627776, neg_1, ltT, ltF, leT, leF, eqT, eqF, ltMT, ltMF, leMT, leMF, eqMF, eqMF', addM, inbT, clp, nI_add, subN, pk_mul, nzT, remN, shl1, bitN, bit0, bit1, lcE, lcLE, lcLT, LleT, LleF, LltT, LltF, LeqT, LeqF, ↓bndS, ↓bnvS, ↓lt_s1, bndS, bnvS, eq_self, ↓reduceIte, m1, show σ (72 + 5 * w + k) = 0 by omega, Bool.false_eq_true, Nat.or_zero]
/-! the first of the greatest, as they come -/
def fm (v : Nat → Nat) (m : Nat) : Nat := fst (fun j => decide (v j = mx v m)) m
theorem fm_lo {v : Nat → Nat} {m : Nat} (hl : v m ≤ mx v m) : mx v (m + 1) = mx v m ∧ (0 < mx v m → fm v (m + 1) = fm v m) := by
  have e : mx v (m + 1) = mx v m := by show max _ _ = _; exact Nat.max_eq_left hl
  refine ⟨e, fun h0 => ?_⟩
  obtain ⟨j, h1, h2⟩ := mx_at m h0
  obtain ⟨a, b, c⟩ := fst_spec (fun j => decide (v j = mx v m)) m
  have lt : fst (fun j => decide (v j = mx v m)) m < m := by
    by_cases h3 : fst (fun j => decide (v j = mx v m)) m < m
    · exact h3
    · have := b j (by omega)
      rw [h2, decide_eq_true rfl] at this
      cases this
  unfold fm
  rw [e]
  show (if fst (fun j => decide (v j = mx v m)) m < m then fst (fun j => decide (v j = mx v m)) m else _) = _
  rw [if_pos lt]
theorem fm_hi {v : Nat → Nat} {m : Nat} (hl : mx v m < v m) : mx v (m + 1) = v m ∧ fm v (m + 1) = m := by
  have e : mx v (m + 1) = v m := by show max _ _ = _; exact Nat.max_eq_right (by omega)
  refine ⟨e, ?_⟩
  obtain ⟨a, b, c⟩ := fst_spec (fun j => decide (v j = v m)) m
  have nl : ¬ fst (fun j => decide (v j = v m)) m < m := fun z => by
    have := of_decide_eq_true (c z)
    have := mx_ge (f := v) z
    omega
  unfold fm
  rw [e]
  show (if fst (fun j => decide (v j = v m)) m < m then _ else if decide (v m = v m) = true then m else m + 1) = m
  rw [if_neg nl, if_pos (decide_eq_true rfl)]
def c8 (v : Nat → Nat) (m : Nat) : Int32 := if 0 < mx v m then nI (fm v m) else -1
def c9 (σ : Nat → Nat) (X : Nat) (v : Nat → Nat) (m : Nat) : Int32 := if 0 < mx v m then nI (bts (bh σ X (fm v m)) 5) else nI 0
theorem LltN {a b : Nat} (ha : a < 4611686018427387904) (hb : b < 4611686018427387904) : (lN a < lN b) = (a < b) := by
  by_cases h1 : a < b
  · rw [LltT h1 (by omega), eq_true h1]
  · rw [LltF (by omega) (by omega), eq_false h1]
theorem m_l106 {l : Nat → Option Nat} {n i X : Nat} {g : Nat → Nat} {x1 x2 : Int32} {x3 : Int64} (B : TM σ l n h) (hL : LtOk l) (H : TgOk σ nm) (hi : i < n) (hn : n ≤ 12) (hX : XR X i x2) (hg : ∀ k, k < 5 → h.2.1 182 (5 * (i + 1) + k) = lN (g k) ∧ g k < 4611686018427387904) (hv : ∀ w, w < σ 2 → vw σ X (l i) g w < 4611686018427387904) (kk : Int64 → Int32 → Int32 → Hp → Option Hp) : itr5 (F_X13_likely_106 x1 x2 x3 (nI i) kk) N0 (lN 0) (-1) (nI 0) (nI 0) h = kk (lN (mx (vw σ X (l i) g) (σ 2))) (c8 (vw σ X (l i) g) (σ 2)) (c9 σ X (vw σ X (l i) g) (σ 2)) h := by
  have h8 := H.1.2.2.1
  have g2 : h.1 157 2 = nI (σ 2) := B.1 2 (by omega)
  refine sq5 (σ 2) (fun w => lN (mx (vw σ X (l i) g) w)) (fun w => c8 (vw σ X (l i) g) w) (fun w => c9 σ X (vw σ X (l i) g) w) (fun w => nI w) (fun _ => h) (fun self => ?_) (fun self w hw => ?_) (by omega) rfl rfl rfl rfl rfl
  · unfold F_X13_likely_106
    simp (disch := omega) only [li_0, li_1, li_2, li_3, li_4, li_5, li_6, li_7, li_8, li_9, li_10, li_12, li_13, li_14, li_15, li_16, li_20, li_24, li_25, li_31, li_32, li_40, li_48, li_54, li_56, li_64, li_72, li_97, li_99, li_100, li_112, li_122, li_144, li_145, li_155, li_157, li_200, li_216, li_255, li_256, li_432, li_437, li_438, li_462, li_463, li_713, li_900, li_940, lL_0, lL_1, lL_255, lL_1099511627776, neg_1, ltT, ltF, leT, leF, eqT, eqF, ltMT, ltMF, leMT, leMF, eqMF, eqMF', addM, inbT, clp, nI_add, subN, pk_mul, nzT, remN, shl1, bitN, bit0, bit1, lcE, lcLE, lcLT, LleT, LleF, LltT, LltF, LeqT, LeqF, ↓bndS, ↓bnvS, ↓lt_s1, bndS, bnvS, eq_self, ↓reduceIte, g2]
  · have mb := m_mayBe (w := w) B hL hi hn (by omega)
    have ml : mx (vw σ X (l i) g) w < 4611686018427387904 := by
      have := (mx_le (f := vw σ X (l i) g) (c := 4611686018427387903) w).mpr (fun j hj => by have := hv j (by omega); omega)
      omega
    have lo : vw σ X (l i) g w ≤ mx (vw σ X (l i) g) w → (lN (mx (vw σ X (l i) g) (w + 1)) = lN (mx (vw σ X (l i) g) w) ∧ c8 (vw σ X (l i) g) (w + 1) = c8 (vw σ X (l i) g) w ∧ c9 σ X (vw σ X (l i) g) (w + 1) = c9 σ X (vw σ X (l i) g) w) := fun z => by
      obtain ⟨a, b⟩ := fm_lo z
      refine ⟨by rw [a], ?_, ?_⟩
      · unfold c8
        rw [a]
        by_cases h1 : 0 < mx (vw σ X (l i) g) w
        · rw [if_pos h1, if_pos h1, b h1]
        · rw [if_neg h1, if_neg h1]
      · unfold c9
        rw [a]
        by_cases h1 : 0 < mx (vw σ X (l i) g) w
        · rw [if_pos h1, if_pos h1, b h1]
        · rw [if_neg h1, if_neg h1]
    unfold F_X13_likely_106
    cases hm : may (l i) w
    · obtain ⟨a, b, c⟩ := lo (by rw [show vw σ X (l i) g w = 0 from if_neg (by rw [hm]; decide)]; exact Nat.zero_le _)
      rw [a, b, c]
      simp (disch := omega) only [li_0, li_1, li_2, li_3, li_4, li_5, li_6, li_7, li_8, li_9, li_10, li_12, li_13, li_14, li_15, li_16, li_20, li_24, li_25, li_31, li_32, li_40, li_48, li_54, li_56, li_64, li_72, li_97, li_99, li_100, li_112, li_122, li_144, li_145, li_155, li_157, li_200, li_216, li_255, li_256, li_432, li_437, li_438, li_462, li_463, li_713, li_900, li_940, lL_0, lL_1, lL_255, lL_1099511627776, neg_1, ltT, ltF, leT, leF, eqT, eqF, ltMT, ltMF, leMT, leMF, eqMF, eqMF', addM, inbT, clp, nI_add, subN, pk_mul, nzT, remN, shl1, bitN, bit0, bit1, lcE, lcLE, lcLT, LleT, LleF, LltT, LltF, LeqT, LeqF, ↓bndS, ↓bnvS, ↓lt_s1, bndS, bnvS, eq_self, ↓reduceIte, g2, mb, hm]
    · have ev : vw σ X (l i) g w = wgt σ (l i) w * mx (bm σ X w g) 5 := if_pos hm
      have ml2 := B.2 i hi
      have lg := (lI_neg (p := l i) (hL i)).2
      have w60 := wgt_l (p := l i) H hw
      have cmp := LltN ml (hv w hw)
      have key : B_X13_likely_262 x1 x2 x3 (nI i) kk self (lN (mx (vw σ X (l i) g) w)) (c8 (vw σ X (l i) g) w) (c9 σ X (vw σ X (l i) g) w) (nI w) (nI (bts (bh σ X w) 5)) (lN (wgt σ (l i) w)) (lN (mx (bm σ X w g) 5)) h = self (lN (mx (vw σ X (l i) g) (w + 1))) (c8 (vw σ X (l i) g) (w + 1)) (c9 σ X (vw σ X (l i) g) (w + 1)) (nI (w + 1)) h := by
        unfold B_X13_likely_262
        rw [lN_mul, Nat.mul_comm, ← ev]
        by_cases h1 : mx (vw σ X (l i) g) w < vw σ X (l i) g w
        · obtain ⟨a, b⟩ := fm_hi h1
          rw [show c8 (vw σ X (l i) g) (w + 1) = nI w by unfold c8; rw [a, b, if_pos (by omega)], show c9 σ X (vw σ X (l i) g) (w + 1) = nI (bts (bh σ X w) 5) by unfold c9; rw [a, b, if_pos (by omega)], a]
          simp (disch := omega) only [li_0, li_1, li_2, li_3, li_4, li_5, li_6, li_7, li_8, li_9, li_10, li_12, li_13, li_14, li_15, li_16, li_20, li_24, li_25, li_31, li_32, li_40, li_48, li_54, li_56, li_64, li_72, li_97, li_99, li_100, li_112, li_122, li_144, li_145, li_155, li_157, li_200, li_216, li_255, li_256, li_432, li_437, li_438, li_462, li_463, li_713, li_900, li_940, lL_0, lL_1, lL_255, lL_1099511627776, neg_1, ltT, ltF, leT, leF, eqT, eqF, ltMT, ltMF, leMT, leMF, eqMF, eqMF', addM, inbT, clp, nI_add, subN, pk_mul, nzT, remN, shl1, bitN, bit0, bit1, lcE, lcLE, lcLT, LleT, LleF, LltT, LltF, LeqT, LeqF, ↓bndS, ↓bnvS, ↓lt_s1, bndS, bnvS, eq_self, ↓reduceIte, cmp, h1]
        · obtain ⟨a, b, c⟩ := lo (by omega)
          rw [a, b, c]
          simp (disch := omega) only [li_0, li_1, li_2, li_3, li_4, li_5, li_6, li_7, li_8, li_9, li_10, li_12, li_13, li_14, li_15, li_16, li_20, li_24, li_25, li_31, li_32, li_40, li_48, li_54, li_56, li_64, li_72, li_97, li_99, li_100, li_112, li_122, li_144, li_145, li_155, li_157, li_200, li_216, li_255, li_256, li_432, li_437, li_438, li_462, li_463, li_713, li_900, li_940, lL_0, lL_1, lL_255, lL_1099511627776, neg_1, ltT, ltF, leT, leF, eqT, eqF, ltMT, ltMF, leMT, leMF, eqMF, eqMF', addM, inbT, clp, nI_add, subN, pk_mul, nzT, remN, shl1, bitN, bit0, bit1, lcE, lcLE, lcLT, LleT, LleF, LltT, LltF, LeqT, LeqF, ↓bndS, ↓bnvS, ↓lt_s1, bndS, bnvS, eq_self, ↓reduceIte, cmp, h1]
      have A := m_l140 (x1 := x1) (x3 := x3) (x6 := lN (mx (vw σ X (l i) g) w)) (x8 := c8 (vw σ X (l i) g) w) (x9 := c9 σ X (vw σ X (l i) g) w) B H hi hn (show w < 8 by omega) hX hg
      rw [← key]
      simp (disch := omega) only [li_0, li_1, li_2, li_3, li_4, li_5, li_6, li_7, li_8, li_9, li_10, li_12, li_13, li_14, li_15, li_16, li_20, li_24, li_25, li_31, li_32, li_40, li_48, li_54, li_56, li_64, li_72, li_97, li_99, li_100, li_112, li_122, li_144, li_145, li_155, li_157, li_200, li_216, li_255, li_256, li_432, li_437, li_438, li_462, li_463, li_713, li_900, li_940, lL_0, lL_1, lL_255, lL_1099511627776, neg_1, ltT, ltF, leT, leF, eqT, eqF, ltMT, ltMF, leMT, leMF, eqMF, eqMF', addM, inbT, clp, nI_add, subN, pk_mul, nzT, remN, shl1, bitN, bit0, bit1, lcE, lcLE, lcLT, LleT, LleF, LltT, LltF, LeqT, LeqF, ↓bndS, ↓bnvS, ↓lt_s1, bndS, bnvS, eq_self, ↓reduceIte, g2, mb, hm, Bool.true_eq_false, A]
      cases hp : l i with
      | none =>
        rw [hp] at ml2 lg
        have m3 := B.1 (48 + w) (by omega)
        have w3 := (H.2.2.2.1 w hw).2.2.1
        have ng : ¬ (nI 0 ≤ lI none) := fun z => (show (0 : Int32) ≤ lI none → False from fun q => (lg.mp q) rfl) z
        rw [ml2, if_neg ng, m3, ItoL (by omega)]
        rfl
      | some v =>
        rw [hp] at ml2 lg
        have ng : nI 0 ≤ lI (some v) := lg.mpr (fun z => by cases z)
        rw [ml2, if_pos ng]
        rfl
end TORNA
