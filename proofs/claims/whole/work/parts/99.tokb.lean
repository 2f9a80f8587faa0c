section TOKB
variable {tp : List Nat} {σ : Nat → Nat} {nm : Nat → List Nat} {h h' : Hp}
theorem isO52 : (isO 5 2 = true) = True := eq_true (by decide)
theorem aln3 : aln (2 + 1) = 940 := by decide
def kwId (x : Int32) : Nat := if fst (fun i => decide (kwC.getD i 0 = x)) 16 < 16 then 300 + fst (fun i => decide (kwC.getD i 0 = x)) 16 else 0
theorem kwId_kw (x : Int32) : isKw (kwId x) = true := by
  unfold kwId isKw
  by_cases h1 : fst (fun i => decide (kwC.getD i 0 = x)) 16 < 16
  · rw [if_pos h1, decide_eq_true (show 300 ≤ 300 + fst (fun i => decide (kwC.getD i 0 = x)) 16 by omega), decide_eq_true (show 300 + fst (fun i => decide (kwC.getD i 0 = x)) 16 < 316 by omega)]
    simp
  · rw [if_neg h1]; rfl
theorem c_of (x : Int32) : f_X4_of x h = some (kwId x, h) := by
  obtain ⟨a1, a2, a3⟩ := fst_spec (fun i => decide (kwC.getD i 0 = x)) 16
  have st : ∀ i, i < 16 → ∀ self k22 k34, F_X4_of_2 x k22 k34 self (nI i) h = if decide (kwC.getD i 0 = x) = true then k22 (nI i) h else self (nI (i + 1)) h := fun i hi self k22 k34 => by
    unfold F_X4_of_2
    rw [show (16 : Int32) = nI 16 from rfl, if_neg (nI_ge hi (by omega)), if_pos (inb_nI (by omega) (by decide)), clp (by omega), show 300 + i - 300 = i by omega, nI_1]
    by_cases h1 : kwC.getD i 0 = x
    · rw [if_pos h1, if_pos (decide_eq_true h1)]
    · rw [if_neg h1, if_neg (by rw [decide_eq_false h1]; decide)]
  unfold f_X4_of kwId
  refine sq2 (fst (fun i => decide (kwC.getD i 0 = x)) 16) (fun i => nI i) (fun _ => h) (fun self => ?_) (fun self i hi => ?_) (by omega) rfl rfl
  · by_cases h1 : fst (fun i => decide (kwC.getD i 0 = x)) 16 < 16
    · rw [st _ h1, if_pos (a3 h1), if_pos h1, if_pos (inb_nI h1 (by decide)), clp (by omega)]
    · rw [if_neg h1, show fst (fun i => decide (kwC.getD i 0 = x)) 16 = 16 by omega]
      rfl
  · have := a2 i hi
    rw [st i (by omega), this, if_neg (by decide)]
theorem minN {a b : Nat} (ha : a < 2147483648) (hb : b < 2147483648) : jmin (nI a) (nI b) = nI (min a b) := by
  by_cases h1 : a ≤ b
  · rw [minT h1 hb, Nat.min_eq_left h1]
  · rw [minF (by omega) ha, Nat.min_eq_right (by omega)]
theorem maxN {a b : Nat} (ha : a < 2147483648) (hb : b < 2147483648) : jmax (nI a) (nI b) = nI (max a b) := by
  by_cases h1 : a ≤ b
  · rw [maxT h1 hb, Nat.max_eq_right h1]
  · rw [maxF (by omega) ha, Nat.max_eq_left (by omega)]
theorem c_isOfWord {c : Nat} (hc : c < 256) : f_X9_isOfWord (nI c) h = some (nI (isWd c).toNat, h) := by
  unfold f_X9_isOfWord B_X9_isOfWord_12 isWd isLt isDg
  rw [show (48 : Int32) = nI 48 from rfl, show (57 : Int32) = nI 57 from rfl, show (97 : Int32) = nI 97 from rfl, show (122 : Int32) = nI 122 from rfl]
  by_cases h1 : c < 48
  · rw [if_pos (nI_lt h1 (by omega)), if_pos (nI_lt (by omega) (by omega)), decide_eq_false (show ¬ 97 ≤ c by omega), decide_eq_false (show ¬ 48 ≤ c by omega)]; rfl
  · rw [if_neg (nI_nlt (by omega) (by omega))]
    by_cases h2 : c ≤ 57
    · rw [if_pos (nI_le h2 (by omega)), decide_eq_true (show 48 ≤ c by omega), decide_eq_true h2, decide_eq_false (show ¬ 97 ≤ c by omega)]; rfl
    · rw [if_neg (nI_ge (by omega) (by omega)), decide_eq_false h2, Bool.and_false, Bool.or_false]
      by_cases h3 : c < 97
      · rw [if_pos (nI_lt h3 (by omega)), decide_eq_false (show ¬ 97 ≤ c by omega)]; rfl
      · rw [if_neg (nI_nlt (by omega) (by omega)), decide_eq_true (show 97 ≤ c by omega), Bool.true_and]
        by_cases h4 : 122 < c
        · rw [if_pos (nI_lt h4 (by omega)), decide_eq_false (show ¬ c ≤ 122 by omega)]; rfl
        · rw [if_neg (nI_nlt (by omega) (by omega)), decide_eq_true (show c ≤ 122 by omega)]; rfl
/-- the class's tokens: tape, most, where the last one ended -/
def CTk (tp : List Nat) (L p : Nat) (h : Hp) : Prop := h.2.2 5 0 = 2 ∧ h.1 5 1 = nI L ∧ h.1 5 2 = nI p ∧ h.1 2 1 = nI tp.length ∧ lsI (h.1 3) tp
def Tp (tp : List Nat) : Prop := tp.length ≤ 940 ∧ ∀ x ∈ tp, x < 256
theorem Tp.b (T : Tp tp) (i : Nat) : tp.getD i 0 < 256 := by
  by_cases h1 : i < tp.length
  · exact getD_P h1 T.2
  · rw [List.getD_eq_getElem?_getD, List.getElem?_eq_none (by omega)]; decide
theorem isBl_f {c : Nat} (h : isBl c = false) : ¬ c = 32 ∧ ¬ c = 10 := by
  unfold isBl at h
  rw [Bool.or_eq_false_iff, decide_eq_false_iff_not, decide_eq_false_iff_not] at h
  exact h
/-- blanks -/
theorem c_adv27 {to p0 : Nat} (T : Tp tp) (h0 : h.2.2 5 0 = 2) (hl : lsI (h.1 3) tp) (hp : p0 ≤ to) (ht : to ≤ tp.length) (h4 : h.1 5 4 = nI p0) (kk : Hp → Option Hp) : ∃ h', itr1 (F_X9_advance_27 (nI to) kk) N0 h = kk h' ∧ Same [5] h h' ∧ h'.2 = h.2 ∧ (∀ j, j ≠ 4 → h'.1 5 j = h.1 5 j) ∧ h'.1 5 4 = nI (to1 isBl tp to p0) := by
  have t9 := T.1
  have bb := to1_b (tp := tp) (f := isBl) hp
  obtain ⟨h', e, s1, s2, s3, s4⟩ := loopQ1 (F := F_X9_advance_27 (nI to) kk) (k := kk) (to1 isBl tp to p0 - p0) (fun i g => Same [5] h g ∧ g.2 = h.2 ∧ (∀ j, j ≠ 4 → g.1 5 j = h.1 5 j) ∧ g.1 5 4 = nI (p0 + i)) (fun self g ⟨q1, q2, q3, q4⟩ => by
      rw [show p0 + (to1 isBl tp to p0 - p0) = to1 isBl tp to p0 by omega] at q4
      have g0 : g.2.2 5 0 = 2 := by rw [q2]; exact h0
      unfold F_X9_advance_27
      by_cases h1 : to1 isBl tp to p0 < to
      · have nb := isBl_f (to1_at h1)
        have gb : g.1 (2 + 1) (to1 isBl tp to p0) = nI (tp.getD (to1 isBl tp to p0) 0) := by rw [(q1 (2 + 1) (by decide)).1]; exact hl _ (by omega)
        have c2 := T.b (to1 isBl tp to p0)
        simp (disch := omega) only [li_0, li_1, li_2, li_3, li_4, li_5, li_6, li_7, li_8, li_9, li_10, li_12, li_13, li_14, li_15, li_16, li_20, li_24, li_25, li_31, li_32, li_40, li_48, li_54, li_56, li_64, li_72, li_97, li_99, li_100, li_112, li_122, li_144, li_145, li_155, li_157, li_200, li_216, li_255, li_256, li_432, li_437, li_438, li_462, li_463, li_713, li_900, li_940, lL_0, lL_1, lL_255, lL_1099511627776, neg_1, ltT, ltF, leT, leF, eqT, eqF, ltMT, ltMF, leMT, leMF, eqMF, eqMF', addM, inbT, clp, nI_add, subN, pk_mul, nzT, remN, shl1, bitN, bit0, bit1, lcE, lcLE, lcLT, LleT, LleF, LltT, LltF, LeqT, LeqF, ↓bndS, ↓bnvS, ↓lt_s1, bndS, bnvS, eq_self, ↓reduceIte, q4, g0, isO52, aln3, gb, nb.1, nb.2]
      · simp (disch := omega) only [li_0, li_1, li_2, li_3, li_4, li_5, li_6, li_7, li_8, li_9, li_10, li_12, li_13, li_14, li_15, li_16, li_20, li_24, li_25, li_31, li_32, li_40, li_48, li_54, li_56, li_64, li_72, li_97, li_99, li_100, li_112, li_122, li_144, li_145, li_155, li_157, li_200, li_216, li_255, li_256, li_432, li_437, li_438, li_462, li_463, li_713, li_900, li_940, lL_0, lL_1, lL_255, lL_1099511627776, neg_1, ltT, ltF, leT, leF, eqT, eqF, ltMT, ltMF, leMT, leMF, eqMF, eqMF', addM, inbT, clp, nI_add, subN, pk_mul, nzT, remN, shl1, bitN, bit0, bit1, lcE, lcLE, lcLT, LleT, LleF, LltT, LltF, LeqT, LeqF, ↓bndS, ↓bnvS, ↓lt_s1, bndS, bnvS, eq_self, ↓reduceIte, q4]) (fun self i g hi ⟨q1, q2, q3, q4⟩ => by
      have g0 : g.2.2 5 0 = 2 := by rw [q2]; exact h0
      have yb := to1_in (tp := tp) (f := isBl) (n := to) (p := p0) (i := i) (by omega)
      have gb : g.1 (2 + 1) (p0 + i) = nI (tp.getD (p0 + i) 0) := by rw [(q1 (2 + 1) (by decide)).1]; exact hl _ (by omega)
      have c2 := T.b (p0 + i)
      refine ⟨sI g 5 4 (nI (p0 + i + 1)), ?_, q1.tr (Same.ofI (by decide)), q2, fun j hj => by rw [sI_nk1 hj]; exact q3 j hj, sI_s⟩
      unfold F_X9_advance_27 B_X9_advance_69
      unfold isBl at yb
      rw [Bool.or_eq_true, decide_eq_true_eq, decide_eq_true_eq] at yb
      by_cases h1 : tp.getD (p0 + i) 0 = 32
      · simp (disch := omega) only [li_0, li_1, li_2, li_3, li_4, li_5, li_6, li_7, li_8, li_9, li_10, li_12, li_13, li_14, li_15, li_16, li_20, li_24, li_25, li_31, li_32, li_40, li_48, li_54, li_56, li_64, li_72, li_97, li_99, li_100, li_112, li_122, li_144, li_145, li_155, li_157, li_200, li_216, li_255, li_256, li_432, li_437, li_438, li_462, li_463, li_713, li_900, li_940, lL_0, lL_1, lL_255, lL_1099511627776, neg_1, ltT, ltF, leT, leF, eqT, eqF, ltMT, ltMF, leMT, leMF, eqMF, eqMF', addM, inbT, clp, nI_add, subN, pk_mul, nzT, remN, shl1, bitN, bit0, bit1, lcE, lcLE, lcLT, LleT, LleF, LltT, LltF, LeqT, LeqF, ↓bndS, ↓bnvS, ↓lt_s1, bndS, bnvS, eq_self, ↓reduceIte, q4, g0, isO52, aln3, gb, h1]
      · have h2 : tp.getD (p0 + i) 0 = 10 := by omega
        simp (disch := omega) only [li_0, li_1, li_2, li_3, li_4, li_5, li_6, li_7, li_8, li_9, li_10, li_12, li_13, li_14, li_15, li_16, li_20, li_24, li_25, li_31, li_32, li_40, li_48, li_54, li_56, li_64, li_72, li_97, li_99, li_100, li_112, li_122, li_144, li_145, li_155, li_157, li_200, li_216, li_255, li_256, li_432, li_437, li_438, li_462, li_463, li_713, li_900, li_940, lL_0, lL_1, lL_255, lL_1099511627776, neg_1, ltT, ltF, leT, leF, eqT, eqF, ltMT, ltMF, leMT, leMF, eqMF, eqMF', addM, inbT, clp, nI_add, subN, pk_mul, nzT, remN, shl1, bitN, bit0, bit1, lcE, lcLE, lcLT, LleT, LleF, LltT, LltF, LeqT, LeqF, ↓bndS, ↓bnvS, ↓lt_s1, bndS, bnvS, eq_self, ↓reduceIte, q4, g0, isO52, aln3, gb, h2]) h ⟨Same.rf, rfl, fun _ _ => rfl, h4⟩ (by omega)
  refine ⟨h', e, s1, s2, s3, ?_⟩
  rw [s4, show p0 + (to1 isBl tp to p0 - p0) = to1 isBl tp to p0 by omega]
/-- the characters of a word -/
theorem c_adv97 {to s : Nat} (T : Tp tp) (h0 : h.2.2 5 0 = 2) (h21 : h.1 2 1 = nI tp.length) (hl : lsI (h.1 3) tp) (hs : s < to) (ht : to ≤ tp.length) (h4 : h.1 5 4 = nI s) (h5 : h.1 5 5 = nI 0) (kk : Int32 → Int32 → Int32 → Hp → Option Hp) : ∃ h', itr4 (F_X9_advance_97 (nI to) kk) N0 (nI 0) (nI 0) (nI s) h = kk (nI (cnt isLt tp s (tkE tp s - s))) (nI (cnt isDg tp s (tkE tp s - s))) (nI (tkE tp s)) h' ∧ Same [5] h h' ∧ h'.2 = h.2 ∧ (∀ j, j ≠ 5 → h'.1 5 j = h.1 5 j) ∧ (cnt isDg tp s (tkE tp s - s) = 0 → tkE tp s - s ≤ 6 → h'.1 5 5 = nI (nmC (tkN tp s (tkE tp s - s)))) ∧ (cnt isLt tp s (tkE tp s - s) = 0 → tkE tp s - s ≤ 2 → h'.1 5 5 = nI (tkV tp s (tkE tp s - s))) := by
  have t9 := T.1
  have bb := to1_b (tp := tp) (f := isWd) (show s ≤ tp.length by omega)
  have be : s ≤ tkE tp s ∧ tkE tp s ≤ tp.length := bb
  obtain ⟨h', e, s1, s2, s3, s4, s5⟩ := loopQ4 (F := F_X9_advance_97 (nI to) kk) (k := fun g => kk (nI (cnt isLt tp s (tkE tp s - s))) (nI (cnt isDg tp s (tkE tp s - s))) (nI (s + (tkE tp s - s))) g) (tkE tp s - s) (fun i => nI (cnt isLt tp s i)) (fun i => nI (cnt isDg tp s i)) (fun i => nI (s + i)) (fun i g => Same [5] h g ∧ g.2 = h.2 ∧ (∀ j, j ≠ 5 → g.1 5 j = h.1 5 j) ∧ (cnt isDg tp s i = 0 → i ≤ 6 → g.1 5 5 = nI (nmC (tkN tp s i))) ∧ (cnt isLt tp s i = 0 → i ≤ 2 → g.1 5 5 = nI (tkV tp s i))) (fun self g ⟨q1, q2, q3, _, _⟩ => by
      have g0 : g.2.2 5 0 = 2 := by rw [q2]; exact h0
      have g4 : g.1 5 4 = nI s := by rw [q3 4 (by decide)]; exact h4
      have g21 : g.1 2 1 = nI tp.length := by rw [(q1 2 (by decide)).1]; exact h21
      show F_X9_advance_97 (nI to) kk self _ _ (nI (s + (tkE tp s - s))) g = _
      rw [show s + (tkE tp s - s) = tkE tp s by omega]
      unfold F_X9_advance_97
      by_cases h1 : tkE tp s < tp.length
      · have nw : isWd (tp.getD (tkE tp s) 0) = false := to1_at (f := isWd) (n := tp.length) (p := s) h1
        have gb : g.1 (2 + 1) (tkE tp s) = nI (tp.getD (tkE tp s) 0) := by rw [(q1 (2 + 1) (by decide)).1]; exact hl _ h1
        have iw := c_isOfWord (h := g) (T.b (tkE tp s))
        simp (disch := omega) only [li_0, li_1, li_2, li_3, li_4, li_5, li_6, li_7, li_8, li_9, li_10, li_12, li_13, li_14, li_15, li_16, li_20, li_24, li_25, li_31, li_32, li_40, li_48, li_54, li_56, li_64, li_72, li_97, li_99, li_100, li_112, li_122, li_144, li_145, li_155, li_157, li_200, li_216, li_255, li_256, li_432, li_437, li_438, li_462, li_463, li_713, li_900, li_940, lL_0, lL_1, lL_255, lL_1099511627776, neg_1, ltT, ltF, leT, leF, eqT, eqF, ltMT, ltMF, leMT, leMF, eqMF, eqMF', addM, inbT, clp, nI_add, subN, pk_mul, nzT, remN, shl1, bitN, bit0, bit1, lcE, lcLE, lcLT, LleT, LleF, LltT, LltF, LeqT, LeqF, ↓bndS, ↓bnvS, ↓lt_s1, bndS, bnvS, eq_self, ↓reduceIte, g4, g0, isO52, g21, aln3, gb, iw, nw]
      · simp (disch := omega) only [li_0, li_1, li_2, li_3, li_4, li_5, li_6, li_7, li_8, li_9, li_10, li_12, li_13, li_14, li_15, li_16, li_20, li_24, li_25, li_31, li_32, li_40, li_48, li_54, li_56, li_64, li_72, li_97, li_99, li_100, li_112, li_122, li_144, li_145, li_155, li_157, li_200, li_216, li_255, li_256, li_432, li_437, li_438, li_462, li_463, li_713, li_900, li_940, lL_0, lL_1, lL_255, lL_1099511627776, neg_1, ltT, ltF, leT, leF, eqT, eqF, ltMT, ltMF, leMT, leMF, eqMF, eqMF', addM, inbT, clp, nI_add, subN, pk_mul, nzT, remN, shl1, bitN, bit0, bit1, lcE, lcLE, lcLT, LleT, LleF, LltT, LltF, LeqT, LeqF, ↓bndS, ↓bnvS, ↓lt_s1, bndS, bnvS, eq_self, ↓reduceIte, g4, g0, isO52, g21]) (fun self i g hi ⟨q1, q2, q3, q4, q5⟩ => by
      have g0 : g.2.2 5 0 = 2 := by rw [q2]; exact h0
      have g4 : g.1 5 4 = nI s := by rw [q3 4 (by decide)]; exact h4
      have g21 : g.1 2 1 = nI tp.length := by rw [(q1 2 (by decide)).1]; exact h21
      have yw : isWd (tp.getD (s + i) 0) = true := to1_in (tp := tp) (f := isWd) (n := tp.length) (p := s) (i := i) (show s + i < tkE tp s by omega)
      have gb : g.1 (2 + 1) (s + i) = nI (tp.getD (s + i) 0) := by rw [(q1 (2 + 1) (by decide)).1]; exact hl _ (by omega)
      have c2 := T.b (s + i)
      have iw := c_isOfWord (h := g) c2
      have eL : cnt isLt tp s (i + 1) = cnt isLt tp s i + (if isLt (tp.getD (s + i) 0) = true then 1 else 0) := rfl
      have eD : cnt isDg tp s (i + 1) = cnt isDg tp s i + (if isDg (tp.getD (s + i) 0) = true then 1 else 0) := rfl
      have cL := cnt_le isLt tp s i
      have cD := cnt_le isDg tp s i
      have csum := cnt_sum (tp := tp) (s := s) i (fun j hj => to1_in (tp := tp) (f := isWd) (n := tp.length) (p := s) (i := j) (show s + j < tkE tp s by omega))
      rcases lw _ yw with ⟨a, b⟩ | ⟨a, b⟩
      · rw [a, if_pos rfl] at eL
        rw [b, if_neg (by decide)] at eD
        unfold isLt at a
        rw [Bool.and_eq_true, decide_eq_true_eq, decide_eq_true_eq] at a
        refine ⟨sI g 5 5 (jshl (g.1 5 5) (nI 5) ||| nI (tp.getD (s + i) 0 - 97 + 1)), ?_, q1.tr (Same.ofI (by decide)), q2, fun j hj => by rw [sI_nk1 hj]; exact q3 j hj, fun z1 z2 => ?_, fun z1 z2 => by omega⟩
        · show F_X9_advance_97 (nI to) kk self _ _ (nI (s + i)) g = self _ _ (nI (s + (i + 1))) _
          unfold F_X9_advance_97 B_X9_advance_153 B_X9_advance_202 B_X9_advance_216 f_X9_withLetter
          rw [eL, eD, ← Nat.add_assoc]
          simp (disch := omega) only [li_0, li_1, li_2, li_3, li_4, li_5, li_6, li_7, li_8, li_9, li_10, li_12, li_13, li_14, li_15, li_16, li_20, li_24, li_25, li_31, li_32, li_40, li_48, li_54, li_56, li_64, li_72, li_97, li_99, li_100, li_112, li_122, li_144, li_145, li_155, li_157, li_200, li_216, li_255, li_256, li_432, li_437, li_438, li_462, li_463, li_713, li_900, li_940, lL_0, lL_1, lL_255, lL_1099511627776, neg_1, ltT, ltF, leT, leF, eqT, eqF, ltMT, ltMF, leMT, leMF, eqMF, eqMF', addM, inbT, clp, nI_add, subN, pk_mul, nzT, remN, shl1, bitN, bit0, bit1, lcE, lcLE, lcLT, LleT, LleF, LltT, LltF, LeqT, LeqF, ↓bndS, ↓bnvS, ↓lt_s1, bndS, bnvS, eq_self, ↓reduceIte, g4, g0, isO52, g21, aln3, gb, iw, yw, Bool.true_eq_false, show ((57 : Int32)) = nI 57 from rfl]
        · rw [sI_s, q4 (by omega) (by omega), shlN _ (by decide), fa_or]
          show _ = nI (nmC (tkN tp s i ++ [tp.getD (s + i) 0 - 96]))
          rw [nmC_snoc, Nat.or_comm, show nmC (tkN tp s i) * 2 ^ 5 = nmC (tkN tp s i) * 2 ^ 5 from rfl, or_add (n := 5) (show tp.getD (s + i) 0 - 97 + 1 < 2 ^ 5 by rw [show (2 : Nat) ^ 5 = 32 from rfl]; omega), show tp.getD (s + i) 0 - 97 + 1 = tp.getD (s + i) 0 - 96 by omega, Nat.add_comm]
      · rw [a, if_neg (by decide)] at eL
        rw [b, if_pos rfl] at eD
        unfold isDg at b
        rw [Bool.and_eq_true, decide_eq_true_eq, decide_eq_true_eq] at b
        refine ⟨sI g 5 5 (g.1 5 5 * nI 10 + nI (tp.getD (s + i) 0) - nI 48), ?_, q1.tr (Same.ofI (by decide)), q2, fun j hj => by rw [sI_nk1 hj]; exact q3 j hj, fun z1 z2 => by omega, fun z1 z2 => ?_⟩
        · show F_X9_advance_97 (nI to) kk self _ _ (nI (s + i)) g = self _ _ (nI (s + (i + 1))) _
          unfold F_X9_advance_97 B_X9_advance_153 B_X9_advance_202 B_X9_advance_216
          rw [eL, eD, ← Nat.add_assoc]
          simp (disch := omega) only [li_0, li_1, li_2, li_3, li_4, li_5, li_6, li_7, li_8, li_9, li_10, li_12, li_13, li_14, li_15, li_16, li_20, li_24, li_25, li_31, li_32, li_40, li_48, li_54, li_56, li_64, li_72, li_97, li_99, li_100, li_112, li_122, li_144, li_145, li_155, li_157, li_200, li_216, li_255, li_256, li_432, li_437, li_438, li_462, li_463, li_713, li_900, li_940, lL_0, lL_1, lL_255, lL_1099511627776, neg_1, ltT, ltF, leT, leF, eqT, eqF, ltMT, ltMF, leMT, leMF, eqMF, eqMF', addM, inbT, clp, nI_add, subN, pk_mul, nzT, remN, shl1, bitN, bit0, bit1, lcE, lcLE, lcLT, LleT, LleF, LltT, LltF, LeqT, LeqF, ↓bndS, ↓bnvS, ↓lt_s1, bndS, bnvS, eq_self, ↓reduceIte, g4, g0, isO52, g21, aln3, gb, iw, yw, Bool.true_eq_false, show ((57 : Int32)) = nI 57 from rfl]
        · rw [sI_s, q5 (by omega) (by omega), pk_mul, nI_add, subN (by omega)]
          show _ = nI (tkV tp s i * 10 + (tp.getD (s + i) 0 - 48))
          rw [show tkV tp s i * 10 + tp.getD (s + i) 0 - 48 = tkV tp s i * 10 + (tp.getD (s + i) 0 - 48) by omega]) h ⟨Same.rf, rfl, fun _ _ => rfl, fun _ _ => h5, fun _ _ => h5⟩ (by omega)
  refine ⟨h', ?_, s1, s2, s3, s4, s5⟩
  rw [show nI (tkE tp s) = nI (s + (tkE tp s - s)) by rw [show s + (tkE tp s - s) = tkE tp s by omega]]
  exact e
end TOKB
