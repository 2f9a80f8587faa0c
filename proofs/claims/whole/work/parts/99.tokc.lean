section TOKC
variable {tp : List Nat} {σ : Nat → Nat} {nm : Nat → List Nat} {h h' : Hp}
/-- where the class looks next -/
def tkX (tp : List Nat) (L s : Nat) : Nat := if s < min tp.length L then max (tkE tp s) (s + 1) else s + 1
def tkQ (tp : List Nat) (L s : Nat) : Nat := if s < min tp.length L then tkK tp s else 0
theorem tkK_1 {s : Nat} (hk : tkK tp s = 1) : cnt isDg tp s (tkE tp s - s) = 0 ∧ tkE tp s - s ≤ 6 ∧ 0 < tkE tp s - s := by
  unfold tkK at hk
  by_cases h1 : tkE tp s - s = 0
  · rw [if_pos h1] at hk
    by_cases h2 : tp.getD s 0 = 59
    · rw [if_pos h2] at hk; omega
    · rw [if_neg h2] at hk; omega
  · rw [if_neg h1] at hk
    by_cases h2 : cnt isDg tp s (tkE tp s - s) = 0
    · rw [if_pos h2] at hk
      by_cases h3 : 6 < tkE tp s - s
      · rw [if_pos h3] at hk; omega
      · exact ⟨h2, by omega, by omega⟩
    · rw [if_neg h2] at hk
      by_cases h3 : cnt isLt tp s (tkE tp s - s) = 0
      · rw [if_pos h3] at hk
        by_cases h4 : 2 < tkE tp s - s
        · rw [if_pos h4] at hk; omega
        · rw [if_neg h4] at hk; omega
      · rw [if_neg h3] at hk; omega
theorem tkK_2 {s : Nat} (hk : tkK tp s = 2) : cnt isLt tp s (tkE tp s - s) = 0 ∧ tkE tp s - s ≤ 2 ∧ 0 < tkE tp s - s := by
  unfold tkK at hk
  by_cases h1 : tkE tp s - s = 0
  · rw [if_pos h1] at hk
    by_cases h2 : tp.getD s 0 = 59
    · rw [if_pos h2] at hk; omega
    · rw [if_neg h2] at hk; omega
  · rw [if_neg h1] at hk
    by_cases h2 : cnt isDg tp s (tkE tp s - s) = 0
    · rw [if_pos h2] at hk
      by_cases h3 : 6 < tkE tp s - s
      · rw [if_pos h3] at hk; omega
      · rw [if_neg h3] at hk; omega
    · rw [if_neg h2] at hk
      by_cases h3 : cnt isLt tp s (tkE tp s - s) = 0
      · rw [if_pos h3] at hk
        by_cases h4 : 2 < tkE tp s - s
        · rw [if_pos h4] at hk; omega
        · exact ⟨h3, by omega, by omega⟩
      · rw [if_neg h3] at hk; omega
theorem tkK_lt (s : Nat) : tkK tp s < 5 := by
  unfold tkK
  by_cases h1 : tkE tp s - s = 0
  · rw [if_pos h1]
    by_cases h2 : tp.getD s 0 = 59
    · rw [if_pos h2]; omega
    · rw [if_neg h2]; omega
  · rw [if_neg h1]
    by_cases h2 : cnt isDg tp s (tkE tp s - s) = 0
    · rw [if_pos h2]
      by_cases h3 : 6 < tkE tp s - s
      · rw [if_pos h3]; omega
      · rw [if_neg h3]; omega
    · rw [if_neg h2]
      by_cases h3 : cnt isLt tp s (tkE tp s - s) = 0
      · rw [if_pos h3]
        by_cases h4 : 2 < tkE tp s - s
        · rw [if_pos h4]; omega
        · rw [if_neg h4]; omega
      · rw [if_neg h3]; omega
theorem tk_in {s j : Nat} (hj : j < tkE tp s - s) : isWd (tp.getD (s + j) 0) = true := to1_in (tp := tp) (f := isWd) (n := tp.length) (p := s) (i := j) (show s + j < tkE tp s by omega)
theorem c_kindOf {s : Nat} (T : Tp tp) (h0 : h.2.2 5 0 = 2) (hl : lsI (h.1 3) tp) (hs : s < tp.length) (h4 : h.1 5 4 = nI s) : f_X9_kindOf (nI (cnt isLt tp s (tkE tp s - s))) (nI (cnt isDg tp s (tkE tp s - s))) h = some (nI (tkK tp s), h) := by
  have t9 := T.1
  have be : s ≤ tkE tp s ∧ tkE tp s ≤ tp.length := to1_b (f := isWd) (by omega)
  have cs := cnt_sum (tp := tp) (s := s) (tkE tp s - s) (fun j hj => tk_in hj)
  have gb : h.1 (2 + 1) s = nI (tp.getD s 0) := hl _ hs
  have c2 := T.b s
  unfold f_X9_kindOf B_X9_kindOf_31 tkK
  by_cases h1 : tkE tp s - s = 0
  · have a : cnt isLt tp s (tkE tp s - s) = 0 := by omega
    have b : cnt isDg tp s (tkE tp s - s) = 0 := by omega
    rw [if_pos h1]
    by_cases h2 : tp.getD s 0 = 59
    · rw [if_pos h2]
      simp (disch := omega) only [li_0, li_1, li_2, li_3, li_4, li_5, li_6, li_7, li_8, li_9, li_10, li_12, li_13, li_14, li_15, li_16, li_20, li_24, li_25, li_31, li_32, li_40, li_48, li_54, li_56, li_64, li_72, li_97, li_99, li_100, li_112, li_122, li_144, li_145, li_155, li_157, li_200, li_216, li_255, li_256, li_432, li_437, li_438, li_462, li_463, li_713, li_900, li_940, lL_0, lL_1, lL_255, lL_1099511627776, neg_1, ltT, ltF, leT, leF, eqT, eqF, ltMT, ltMF, leMT, leMF, eqMF, eqMF', addM, inbT, clp, nI_add, subN, pk_mul, nzT, remN, shl1, bitN, bit0, bit1, lcE, lcLE, lcLT, LleT, LleF, LltT, LltF, LeqT, LeqF, ↓bndS, ↓bnvS, ↓lt_s1, bndS, bnvS, eq_self, ↓reduceIte, a, b, h0, isO52, aln3, h4, gb, h2, show ((59 : Int32)) = nI 59 from rfl]
    · rw [if_neg h2]
      simp (disch := omega) only [li_0, li_1, li_2, li_3, li_4, li_5, li_6, li_7, li_8, li_9, li_10, li_12, li_13, li_14, li_15, li_16, li_20, li_24, li_25, li_31, li_32, li_40, li_48, li_54, li_56, li_64, li_72, li_97, li_99, li_100, li_112, li_122, li_144, li_145, li_155, li_157, li_200, li_216, li_255, li_256, li_432, li_437, li_438, li_462, li_463, li_713, li_900, li_940, lL_0, lL_1, lL_255, lL_1099511627776, neg_1, ltT, ltF, leT, leF, eqT, eqF, ltMT, ltMF, leMT, leMF, eqMF, eqMF', addM, inbT, clp, nI_add, subN, pk_mul, nzT, remN, shl1, bitN, bit0, bit1, lcE, lcLE, lcLT, LleT, LleF, LltT, LltF, LeqT, LeqF, ↓bndS, ↓bnvS, ↓lt_s1, bndS, bnvS, eq_self, ↓reduceIte, a, b, h0, isO52, aln3, h4, gb, h2, show ((59 : Int32)) = nI 59 from rfl]
  · rw [if_neg h1]
    by_cases h2 : cnt isDg tp s (tkE tp s - s) = 0
    · rw [if_pos h2]
      have a : cnt isLt tp s (tkE tp s - s) = tkE tp s - s := by omega
      by_cases h3 : 6 < tkE tp s - s
      · rw [if_pos h3]
        simp (disch := omega) only [li_0, li_1, li_2, li_3, li_4, li_5, li_6, li_7, li_8, li_9, li_10, li_12, li_13, li_14, li_15, li_16, li_20, li_24, li_25, li_31, li_32, li_40, li_48, li_54, li_56, li_64, li_72, li_97, li_99, li_100, li_112, li_122, li_144, li_145, li_155, li_157, li_200, li_216, li_255, li_256, li_432, li_437, li_438, li_462, li_463, li_713, li_900, li_940, lL_0, lL_1, lL_255, lL_1099511627776, neg_1, ltT, ltF, leT, leF, eqT, eqF, ltMT, ltMF, leMT, leMF, eqMF, eqMF', addM, inbT, clp, nI_add, subN, pk_mul, nzT, remN, shl1, bitN, bit0, bit1, lcE, lcLE, lcLT, LleT, LleF, LltT, LltF, LeqT, LeqF, ↓bndS, ↓bnvS, ↓lt_s1, bndS, bnvS, eq_self, ↓reduceIte, a, h2]
      · rw [if_neg h3]
        simp (disch := omega) only [li_0, li_1, li_2, li_3, li_4, li_5, li_6, li_7, li_8, li_9, li_10, li_12, li_13, li_14, li_15, li_16, li_20, li_24, li_25, li_31, li_32, li_40, li_48, li_54, li_56, li_64, li_72, li_97, li_99, li_100, li_112, li_122, li_144, li_145, li_155, li_157, li_200, li_216, li_255, li_256, li_432, li_437, li_438, li_462, li_463, li_713, li_900, li_940, lL_0, lL_1, lL_255, lL_1099511627776, neg_1, ltT, ltF, leT, leF, eqT, eqF, ltMT, ltMF, leMT, leMF, eqMF, eqMF', addM, inbT, clp, nI_add, subN, pk_mul, nzT, remN, shl1, bitN, bit0, bit1, lcE, lcLE, lcLT, LleT, LleF, LltT, LltF, LeqT, LeqF, ↓bndS, ↓bnvS, ↓lt_s1, bndS, bnvS, eq_self, ↓reduceIte, a, h2]
    · rw [if_neg h2]
      by_cases h3 : cnt isLt tp s (tkE tp s - s) = 0
      · rw [if_pos h3]
        have a : cnt isDg tp s (tkE tp s - s) = tkE tp s - s := by omega
        by_cases h4 : 2 < tkE tp s - s
        · rw [if_pos h4]
          simp (disch := omega) only [li_0, li_1, li_2, li_3, li_4, li_5, li_6, li_7, li_8, li_9, li_10, li_12, li_13, li_14, li_15, li_16, li_20, li_24, li_25, li_31, li_32, li_40, li_48, li_54, li_56, li_64, li_72, li_97, li_99, li_100, li_112, li_122, li_144, li_145, li_155, li_157, li_200, li_216, li_255, li_256, li_432, li_437, li_438, li_462, li_463, li_713, li_900, li_940, lL_0, lL_1, lL_255, lL_1099511627776, neg_1, ltT, ltF, leT, leF, eqT, eqF, ltMT, ltMF, leMT, leMF, eqMF, eqMF', addM, inbT, clp, nI_add, subN, pk_mul, nzT, remN, shl1, bitN, bit0, bit1, lcE, lcLE, lcLT, LleT, LleF, LltT, LltF, LeqT, LeqF, ↓bndS, ↓bnvS, ↓lt_s1, bndS, bnvS, eq_self, ↓reduceIte, a, h3]
        · rw [if_neg h4]
          simp (disch := omega) only [li_0, li_1, li_2, li_3, li_4, li_5, li_6, li_7, li_8, li_9, li_10, li_12, li_13, li_14, li_15, li_16, li_20, li_24, li_25, li_31, li_32, li_40, li_48, li_54, li_56, li_64, li_72, li_97, li_99, li_100, li_112, li_122, li_144, li_145, li_155, li_157, li_200, li_216, li_255, li_256, li_432, li_437, li_438, li_462, li_463, li_713, li_900, li_940, lL_0, lL_1, lL_255, lL_1099511627776, neg_1, ltT, ltF, leT, leF, eqT, eqF, ltMT, ltMF, leMT, leMF, eqMF, eqMF', addM, inbT, clp, nI_add, subN, pk_mul, nzT, remN, shl1, bitN, bit0, bit1, lcE, lcLE, lcLT, LleT, LleF, LltT, LltF, LeqT, LeqF, ↓bndS, ↓bnvS, ↓lt_s1, bndS, bnvS, eq_self, ↓reduceIte, a, h3]
      · rw [if_neg h3]
        simp (disch := omega) only [li_0, li_1, li_2, li_3, li_4, li_5, li_6, li_7, li_8, li_9, li_10, li_12, li_13, li_14, li_15, li_16, li_20, li_24, li_25, li_31, li_32, li_40, li_48, li_54, li_56, li_64, li_72, li_97, li_99, li_100, li_112, li_122, li_144, li_145, li_155, li_157, li_200, li_216, li_255, li_256, li_432, li_437, li_438, li_462, li_463, li_713, li_900, li_940, lL_0, lL_1, lL_255, lL_1099511627776, neg_1, ltT, ltF, leT, leF, eqT, eqF, ltMT, ltMF, leMT, leMF, eqMF, eqMF', addM, inbT, clp, nI_add, subN, pk_mul, nzT, remN, shl1, bitN, bit0, bit1, lcE, lcLE, lcLT, LleT, LleF, LltT, LltF, LeqT, LeqF, ↓bndS, ↓bnvS, ↓lt_s1, bndS, bnvS, eq_self, ↓reduceIte]
theorem c_advance {L p : Nat} (T : Tp tp) (hL : L ≤ 1000) (hp : p ≤ 2000) (B : CTk tp L p h) : ∃ h', f_X9_advance h = some h' ∧ Same [5] h h' ∧ h'.2.1 = h.2.1 ∧ CTk tp L (tkX tp L (tkB tp L p)) h' ∧ h'.1 5 3 = nI (tkQ tp L (tkB tp L p)) ∧ h'.1 5 4 = nI (tkB tp L p) ∧ (tkQ tp L (tkB tp L p) = 1 → h'.1 5 5 = nI (nmC (tkN tp (tkB tp L p) (tkE tp (tkB tp L p) - tkB tp L p))) ∧ h'.2.2 5 6 = kwId (nI (nmC (tkN tp (tkB tp L p) (tkE tp (tkB tp L p) - tkB tp L p))))) ∧ (tkQ tp L (tkB tp L p) = 2 → h'.1 5 5 = nI (tkV tp (tkB tp L p) (tkE tp (tkB tp L p) - tkB tp L p))) ∧ (tkQ tp L (tkB tp L p) ≠ 1 → h'.2.2 5 6 = 0) := by
  have t9 := T.1
  obtain ⟨b0, b1, b2, b3, b4⟩ := B
  obtain ⟨to, hto⟩ : ∃ to, to = min tp.length L := ⟨_, rfl⟩
  obtain ⟨s, hs⟩ : ∃ s, s = tkB tp L p := ⟨_, rfl⟩
  have es : to1 isBl tp to (min p to) = s := by rw [hs, hto]; exact to1_min (Nat.min_le_left _ _)
  have st : s ≤ to := by rw [hs, hto]; exact Nat.min_le_right _ _
  have S0 : Same [5] h (sI h 5 4 (nI (min p to))) := Same.ofI (by decide)
  have E0 : f_X9_advance h = itr1 (F_X9_advance_27 (nI to) (fun h15 => B_X9_advance_82 (nI to) h15)) N0 (sI h 5 4 (nI (min p to))) := by
    unfold f_X9_advance
    rw [b0, lt_s1, if_pos (by decide), b3, b1, minN (by omega) (by omega), ← hto, lt_s1, b2, minN (by omega) (by omega), lt_s1]
  obtain ⟨h1, E1, u1, u2, u3, u4⟩ := c_adv27 (h := sI h 5 4 (nI (min p to))) (to := to) (p0 := min p to) T b0 (by rw [(S0 3 (by decide)).1]; exact b4) (Nat.min_le_right _ _) (by omega) sI_s (fun h15 => B_X9_advance_82 (nI to) h15)
  rw [es] at u4
  have S1 : Same [5] h (sI h1 5 5 (nI 0)) := (S0.tr u1).tr (Same.ofI (by decide))
  have g0 : (sI h1 5 5 (nI 0)).2.2 5 0 = 2 := by show h1.2.2 5 0 = 2; rw [u2]; exact b0
  have g4 : (sI h1 5 5 (nI 0)).1 5 4 = nI s := by rw [sI_nk1 (by decide)]; exact u4
  have g1 : (sI h1 5 5 (nI 0)).1 5 1 = nI L := by rw [sI_nk1 (by decide), u3 1 (by decide), sI_nk1 (by decide)]; exact b1
  have gl : lsI ((sI h1 5 5 (nI 0)).1 3) tp := by rw [(S1 3 (by decide)).1]; exact b4
  have g21 : (sI h1 5 5 (nI 0)).1 2 1 = nI tp.length := by rw [(S1 2 (by decide)).1]; exact b3
  have gL : (sI h1 5 5 (nI 0)).2.1 = h.2.1 := by show h1.2.1 = _; rw [u2]; rfl
  have E2 : B_X9_advance_82 (nI to) h1 = itr4 (F_X9_advance_97 (nI to) (fun v46 v47 v48 h45 => B_X9_advance_237 (nI to) v46 v47 v48 h45)) N0 (nI 0) (nI 0) (nI s) (sI h1 5 5 (nI 0)) := by
    unfold B_X9_advance_82
    rw [li_0, lt_s1, g4, lt_s1]
  rw [← hs]
  rw [E0, E1, E2]
  by_cases hlt : s < to
  · have be : s ≤ tkE tp s ∧ tkE tp s ≤ tp.length := to1_b (f := isWd) (by omega)
    obtain ⟨h3, E3, v1, v2, v3, v4, v5⟩ := c_adv97 (s := s) T g0 g21 gl hlt (by omega) g4 sI_s (fun v46 v47 v48 h45 => B_X9_advance_237 (nI to) v46 v47 v48 h45)
    have S3 : Same [5] h h3 := S1.tr v1
    have k0 : h3.2.2 5 0 = 2 := by rw [v2]; exact g0
    have k4 : h3.1 5 4 = nI s := by rw [v3 4 (by decide)]; exact g4
    have k1 : h3.1 5 1 = nI L := by rw [v3 1 (by decide)]; exact g1
    have S4 : Same [5] h3 (sI h3 5 2 (nI (max (tkE tp s) (s + 1)))) := Same.ofI (by decide)
    have kd := c_kindOf (h := sI h3 5 2 (nI (max (tkE tp s) (s + 1)))) (s := s) T k0 (by rw [((S3.tr S4) 3 (by decide)).1]; exact b4) (by omega) (by rw [sI_nk1 (by decide)]; exact k4)
    have eX : tkX tp L s = max (tkE tp s) (s + 1) := if_pos (by rw [← hto]; exact hlt)
    have eQ : tkQ tp L s = tkK tp s := if_pos (by rw [← hto]; exact hlt)
    have kl := tkK_lt (tp := tp) s
    rw [eX, eQ, E3]
    have E4 : B_X9_advance_237 (nI to) (nI (cnt isLt tp s (tkE tp s - s))) (nI (cnt isDg tp s (tkE tp s - s))) (nI (tkE tp s)) h3 = B_X9_advance_271 (nI (tkK tp s)) (sI h3 5 2 (nI (max (tkE tp s) (s + 1)))) := by
      unfold B_X9_advance_237
      rw [k4, nI_1, maxN (by omega) (by omega), lt_s1, show (sI h3 5 2 (nI (max (tkE tp s) (s + 1)))).1 5 4 = nI s by rw [sI_nk1 (by decide)]; exact k4, if_pos (nI_lt hlt (by omega)), kd, bndS]
    rw [E4]
    unfold B_X9_advance_271 B_X9_advance_294
    rw [lt_s1, sI_s]
    have fin : ∀ kw : Nat, (Same [5] h (sR (sI (sI h3 5 2 (nI (max (tkE tp s) (s + 1)))) 5 3 (nI (tkK tp s))) 5 6 kw) ∧ (sR (sI (sI h3 5 2 (nI (max (tkE tp s) (s + 1)))) 5 3 (nI (tkK tp s))) 5 6 kw).2.1 = h.2.1 ∧ CTk tp L (max (tkE tp s) (s + 1)) (sR (sI (sI h3 5 2 (nI (max (tkE tp s) (s + 1)))) 5 3 (nI (tkK tp s))) 5 6 kw) ∧ (sR (sI (sI h3 5 2 (nI (max (tkE tp s) (s + 1)))) 5 3 (nI (tkK tp s))) 5 6 kw).1 5 3 = nI (tkK tp s) ∧ (sR (sI (sI h3 5 2 (nI (max (tkE tp s) (s + 1)))) 5 3 (nI (tkK tp s))) 5 6 kw).1 5 4 = nI s) := fun kw => by
      have SS : Same [5] h (sR (sI (sI h3 5 2 (nI (max (tkE tp s) (s + 1)))) 5 3 (nI (tkK tp s))) 5 6 kw) := ((S3.tr S4).tr (Same.ofI (by decide))).tr (Same.ofR (by decide))
      refine ⟨SS, ?_, ⟨?_, ?_, ?_, ?_, ?_⟩, ?_, ?_⟩
      · show h3.2.1 = _; rw [v2]; exact gL
      · rw [sR3, if_neg (by decide)]; exact k0
      · rw [sR1, sI_nk1 (by decide), sI_nk1 (by decide)]; exact k1
      · rw [sR1, sI_nk1 (by decide)]; exact sI_s
      · rw [(SS 2 (by decide)).1]; exact b3
      · rw [(SS 3 (by decide)).1]; exact b4
      · rw [sR1]; exact sI_s
      · rw [sR1, sI_nk1 (by decide), sI_nk1 (by decide)]; exact k4
    by_cases hk : tkK tp s = 1
    · obtain ⟨z1, z2, z3⟩ := tkK_1 hk
      have w5 : (sI (sI h3 5 2 (nI (max (tkE tp s) (s + 1)))) 5 3 (nI (tkK tp s))).1 5 5 = nI (nmC (tkN tp s (tkE tp s - s))) := by rw [sI_nk1 (by decide), sI_nk1 (by decide)]; exact v4 z1 z2
      rw [if_pos (by rw [hk]; rfl), w5, c_of, bndS, if_pos (kwId_kw _), lt_s1]
      obtain ⟨f1, f2, f3, f4, f5⟩ := fin (kwId (nI (nmC (tkN tp s (tkE tp s - s)))))
      exact ⟨_, rfl, f1, f2, f3, f4, f5, fun _ => ⟨by rw [sR1]; exact w5, sR_s⟩, fun z => by omega, fun z => absurd hk z⟩
    · rw [if_neg (show ¬ nI (tkK tp s) = 1 from fun z => hk ((nI_eq (b := 1) (by omega) (by omega)).mp z)), lt_s1]
      obtain ⟨f1, f2, f3, f4, f5⟩ := fin 0
      refine ⟨_, rfl, f1, f2, f3, f4, f5, fun z => absurd z hk, fun z => ?_, fun _ => sR_s⟩
      obtain ⟨z1, z2, z3⟩ := tkK_2 z
      rw [sR1, sI_nk1 (by decide), sI_nk1 (by decide)]
      exact v5 z1 z2
  · have eX : tkX tp L s = s + 1 := if_neg (by rw [← hto]; exact hlt)
    have eQ : tkQ tp L s = 0 := if_neg (by rw [← hto]; exact hlt)
    have E3 : itr4 (F_X9_advance_97 (nI to) (fun v46 v47 v48 h45 => B_X9_advance_237 (nI to) v46 v47 v48 h45)) N0 (nI 0) (nI 0) (nI s) (sI h1 5 5 (nI 0)) = B_X9_advance_237 (nI to) (nI 0) (nI 0) (nI s) (sI h1 5 5 (nI 0)) := by
      refine sq4 0 (fun _ => nI 0) (fun _ => nI 0) (fun _ => nI s) (fun _ => sI h1 5 5 (nI 0)) (fun self => ?_) (fun self i hi => by omega) (by omega) rfl rfl rfl rfl
      unfold F_X9_advance_97
      rw [g4, if_pos (nI_le (by omega) (by omega))]
    have SS : Same [5] h (sR (sI (sI (sI h1 5 5 (nI 0)) 5 2 (nI (s + 1))) 5 3 (nI 0)) 5 6 0) := ((S1.tr (Same.ofI (by decide))).tr (Same.ofI (by decide))).tr (Same.ofR (by decide))
    rw [eX, eQ, E3]
    refine ⟨sR (sI (sI (sI h1 5 5 (nI 0)) 5 2 (nI (s + 1))) 5 3 (nI 0)) 5 6 0, ?_, SS, gL, ⟨?_, ?_, ?_, ?_, ?_⟩, ?_, ?_, fun z => by omega, fun z => by omega, fun _ => sR_s⟩
    · unfold B_X9_advance_237
      rw [g4, nI_1, maxN (by omega) (by omega), Nat.max_eq_right (by omega), lt_s1, show (sI (sI h1 5 5 (nI 0)) 5 2 (nI (s + 1))).1 5 4 = nI s by rw [sI_nk1 (by decide)]; exact g4, if_neg (nI_nlt (by omega) (by omega))]
      unfold B_X9_advance_271 B_X9_advance_294
      rw [li_0, lt_s1, sI_s, if_neg (by decide), lt_s1]
    · rw [sR3, if_neg (by decide)]; exact g0
    · rw [sR1, sI_nk1 (by decide), sI_nk1 (by decide)]; exact g1
    · rw [sR1, sI_nk1 (by decide)]; exact sI_s
    · rw [(SS 2 (by decide)).1]; exact b3
    · rw [(SS 3 (by decide)).1]; exact b4
    · rw [sR1]; exact sI_s
    · rw [sR1, sI_nk1 (by decide), sI_nk1 (by decide)]; exact g4
end TOKC
