section C3
variable {tp : List Nat} {σ : Nat → Nat} {nm : Nat → List Nat} {K : Im} {fd : List Nat} {fl : Nat} {tn : Option Tn} {h h' : Hp}
/-! AGAINST -/
def alP (v k : Nat) (s : Bool) (m : Nat) : Bool := !v.testBit m || (m.testBit k == s)
def wth (k : Nat) : Nat := bts (fun m => m.testBit k) 8
theorem wth_a : ∀ k, k < 3 → ∀ v, v < 256 → decide (v &&& wth k = v) = allP (alP v k true) 0 8 := by decide +kernel
theorem wth_b : ∀ k, k < 3 → ∀ v, v < 256 → decide (v &&& wth k = 0) = allP (alP v k false) 0 8 := by decide +kernel
theorem wth_lt : ∀ k, k < 3 → wth k < 256 := by decide +kernel
theorem m_isAll {v k : Nat} {s : Bool} (hv : v < 256) (hk : k < 3) : f_X13_isAll (nI v) (nI k) (nI s.toNat) h = some (nI (allP (alP v k s) 0 8).toNat, h) := by
  have e : f_X13_isAll (nI v) (nI k) (nI s.toNat) h = if allP (alP v k s) 0 8 = true then some (nI 1, h) else some (nI 0, h) := by
    unfold f_X13_isAll
    rw [li_0, li_1]
    refine allLoop (alP v k s) 0 8 (fun self => ?_) (fun self i hi => ?_) (by decide)
    · unfold F_X13_isAll_2
      simp (disch := omega) only [li_0, li_1, li_2, li_3, li_4, li_5, li_6, li_7, li_8, li_9, li_10, li_12, li_13, li_14, li_15, li_16, li_20, li_24, li_25, li_31, li_32, li_40, li_48, li_54, li_56, li_64, li_72, li_97, li_99, li_100, li_112, li_122, li_144, li_145, li_155, li_157, li_200, li_216, li_255, li_256, li_432, li_437, li_438, li_462, li_463, li_713, li_900, li_940, lL_0, lL_1, lL_255, lL_1099511627776, neg_1, ltT, ltF, leT, leF, eqT, eqF, ltMT, ltMF, leMT, leMF, eqMF, eqMF', addM, inbT, clp, nI_add, subN, pk_mul, nzT, remN, shl1, bitN, bit0, bit1, lcE, lcLE, lcLT, LleT, LleF, LltT, LltF, LeqT, LeqF, ↓bndS, ↓bnvS, ↓lt_s1, bndS, bnvS, eq_self, ↓reduceIte]
    · have e1 := m_has (h := h) (a := v) (k := 0 + i) (by omega) (by omega)
      have e2 := m_has (h := h) (a := 0 + i) (k := k) (by omega) (by omega)
      unfold F_X13_isAll_2 alP
      cases h1 : v.testBit (0 + i)
      · simp (disch := omega) only [li_0, li_1, li_2, li_3, li_4, li_5, li_6, li_7, li_8, li_9, li_10, li_12, li_13, li_14, li_15, li_16, li_20, li_24, li_25, li_31, li_32, li_40, li_48, li_54, li_56, li_64, li_72, li_97, li_99, li_100, li_112, li_122, li_144, li_145, li_155, li_157, li_200, li_216, li_255, li_256, li_432, li_437, li_438, li_462, li_463, li_713, li_900, li_940, lL_0, lL_1, lL_255, lL_1099511627776, neg_1, ltT, ltF, leT, leF, eqT, eqF, ltMT, ltMF, leMT, leMF, eqMF, eqMF', addM, inbT, clp, nI_add, subN, pk_mul, nzT, remN, shl1, bitN, bit0, bit1, lcE, lcLE, lcLT, LleT, LleF, LltT, LltF, LeqT, LeqF, ↓bndS, ↓bnvS, ↓lt_s1, bndS, bnvS, eq_self, ↓reduceIte, e1, h1]
        rfl
      · cases h2 : (0 + i).testBit k <;> cases s
        all_goals
          simp (disch := omega) only [li_0, li_1, li_2, li_3, li_4, li_5, li_6, li_7, li_8, li_9, li_10, li_12, li_13, li_14, li_15, li_16, li_20, li_24, li_25, li_31, li_32, li_40, li_48, li_54, li_56, li_64, li_72, li_97, li_99, li_100, li_112, li_122, li_144, li_145, li_155, li_157, li_200, li_216, li_255, li_256, li_432, li_437, li_438, li_462, li_463, li_713, li_900, li_940, lL_0, lL_1, lL_255, lL_1099511627776, neg_1, ltT, ltF, leT, leF, eqT, eqF, ltMT, ltMF, leMT, leMF, eqMF, eqMF', addM, inbT, clp, nI_add, subN, pk_mul, nzT, remN, shl1, bitN, bit0, bit1, lcE, lcLE, lcLT, LleT, LleF, LltT, LltF, LeqT, LeqF, ↓bndS, ↓bnvS, ↓lt_s1, bndS, bnvS, eq_self, ↓reduceIte, e1, e2, h1, h2, Bool.true_eq_false, Bool.toNat_true, Bool.toNat_false]
          rfl
  rw [e]
  cases allP (alP v k s) 0 8 <;> rfl
theorem c_meaningsWith {k : Nat} (hk : k < 3) : f_X12_meaningsWith (nI k) h = some (nI (wth k), h) := by
  unfold f_X12_meaningsWith
  refine sq3 8 (fun i => nI (bts (fun m => m.testBit k) i)) (fun i => nI i) (fun _ => h) (fun self => ?_) (fun self i hi => ?_) (by omega) rfl rfl rfl
  · unfold F_X12_meaningsWith_4
    simp (disch := omega) only [li_0, li_1, li_2, li_3, li_4, li_5, li_6, li_7, li_8, li_9, li_10, li_12, li_13, li_14, li_15, li_16, li_20, li_24, li_25, li_31, li_32, li_40, li_48, li_54, li_56, li_64, li_72, li_97, li_99, li_100, li_112, li_122, li_144, li_145, li_155, li_157, li_200, li_216, li_255, li_256, li_432, li_437, li_438, li_462, li_463, li_713, li_900, li_940, lL_0, lL_1, lL_255, lL_1099511627776, neg_1, ltT, ltF, leT, leF, eqT, eqF, ltMT, ltMF, leMT, leMF, eqMF, eqMF', addM, inbT, clp, nI_add, subN, pk_mul, nzT, remN, shl1, bitN, bit0, bit1, lcE, lcLE, lcLT, LleT, LleF, LltT, LltF, LeqT, LeqF, ↓bndS, ↓bnvS, ↓lt_s1, bndS, bnvS, eq_self, ↓reduceIte]
    rfl
  · unfold F_X12_meaningsWith_4
    rw [bts_s]
    cases h1 : i.testBit k
    · simp (disch := omega) only [li_0, li_1, li_2, li_3, li_4, li_5, li_6, li_7, li_8, li_9, li_10, li_12, li_13, li_14, li_15, li_16, li_20, li_24, li_25, li_31, li_32, li_40, li_48, li_54, li_56, li_64, li_72, li_97, li_99, li_100, li_112, li_122, li_144, li_145, li_155, li_157, li_200, li_216, li_255, li_256, li_432, li_437, li_438, li_462, li_463, li_713, li_900, li_940, lL_0, lL_1, lL_255, lL_1099511627776, neg_1, ltT, ltF, leT, leF, eqT, eqF, ltMT, ltMF, leMT, leMF, eqMF, eqMF', addM, inbT, clp, nI_add, subN, pk_mul, nzT, remN, shl1, bitN, bit0, bit1, lcE, lcLE, lcLT, LleT, LleF, LltT, LltF, LeqT, LeqF, ↓bndS, ↓bnvS, ↓lt_s1, bndS, bnvS, eq_self, ↓reduceIte, h1, Bool.false_eq_true, Nat.or_zero]
    · simp (disch := omega) only [li_0, li_1, li_2, li_3, li_4, li_5, li_6, li_7, li_8, li_9, li_10, li_12, li_13, li_14, li_15, li_16, li_20, li_24, li_25, li_31, li_32, li_40, li_48, li_54, li_56, li_64, li_72, li_97, li_99, li_100, li_112, li_122, li_144, li_145, li_155, li_157, li_200, li_216, li_255, li_256, li_432, li_437, li_438, li_462, li_463, li_713, li_900, li_940, lL_0, lL_1, lL_255, lL_1099511627776, neg_1, ltT, ltF, leT, leF, eqT, eqF, ltMT, ltMF, leMT, leMF, eqMF, eqMF', addM, inbT, clp, nI_add, subN, pk_mul, nzT, remN, shl1, bitN, bit0, bit1, lcE, lcLE, lcLT, LleT, LleF, LltT, LltF, LeqT, LeqF, ↓bndS, ↓bnvS, ↓lt_s1, bndS, bnvS, eq_self, ↓reduceIte, h1, Bool.true_eq_false, fa_or]
def agn (v u k : Nat) : Bool := decide (v ≠ 0) && decide (u ≠ 0) && ((allP (alP v k true) 0 8 && allP (alP u k false) 0 8) || (allP (alP v k false) 0 8 && allP (alP u k true) 0 8))
theorem c_areAgainst {v u k : Nat} (hk : k < 3) (hv : v < 256) (hu : u < 256) : f_X12_areAgainst (nI v) (nI u) (nI k) h = some (nI (agn v u k).toNat, h) := by
  have w1 := wth_lt k hk
  have a1 := wth_a k hk v hv
  have a2 := wth_a k hk u hu
  have b1 := wth_b k hk v hv
  have b2 := wth_b k hk u hu
  have l1 : v &&& wth k < 256 := Nat.lt_of_le_of_lt Nat.and_le_left hv
  have l2 : u &&& wth k < 256 := Nat.lt_of_le_of_lt Nat.and_le_left hu
  have cm := c_meaningsWith (h := h) hk
  unfold f_X12_areAgainst agn
  rw [← a1, ← a2, ← b1, ← b2]
  by_cases hv0 : v = 0
  · simp (disch := omega) only [li_0, li_1, li_2, li_3, li_4, li_5, li_6, li_7, li_8, li_9, li_10, li_12, li_13, li_14, li_15, li_16, li_20, li_24, li_25, li_31, li_32, li_40, li_48, li_54, li_56, li_64, li_72, li_97, li_99, li_100, li_112, li_122, li_144, li_145, li_155, li_157, li_200, li_216, li_255, li_256, li_432, li_437, li_438, li_462, li_463, li_713, li_900, li_940, lL_0, lL_1, lL_255, lL_1099511627776, neg_1, ltT, ltF, leT, leF, eqT, eqF, ltMT, ltMF, leMT, leMF, eqMF, eqMF', addM, inbT, clp, nI_add, subN, pk_mul, nzT, remN, shl1, bitN, bit0, bit1, lcE, lcLE, lcLT, LleT, LleF, LltT, LltF, LeqT, LeqF, ↓bndS, ↓bnvS, ↓lt_s1, bndS, bnvS, eq_self, ↓reduceIte, hv0]
    simp
  · by_cases hu0 : u = 0
    · simp (disch := omega) only [li_0, li_1, li_2, li_3, li_4, li_5, li_6, li_7, li_8, li_9, li_10, li_12, li_13, li_14, li_15, li_16, li_20, li_24, li_25, li_31, li_32, li_40, li_48, li_54, li_56, li_64, li_72, li_97, li_99, li_100, li_112, li_122, li_144, li_145, li_155, li_157, li_200, li_216, li_255, li_256, li_432, li_437, li_438, li_462, li_463, li_713, li_900, li_940, lL_0, lL_1, lL_255, lL_1099511627776, neg_1, ltT, ltF, leT, leF, eqT, eqF, ltMT, ltMF, leMT, leMF, eqMF, eqMF', addM, inbT, clp, nI_add, subN, pk_mul, nzT, remN, shl1, bitN, bit0, bit1, lcE, lcLE, lcLT, LleT, LleF, LltT, LltF, LeqT, LeqF, ↓bndS, ↓bnvS, ↓lt_s1, bndS, bnvS, eq_self, ↓reduceIte, hv0, hu0]
      simp
    · have hv1 : ¬ 0 = v := by omega
      have hu1 : ¬ 0 = u := by omega
      by_cases c1 : v &&& wth k = v <;> by_cases c2 : u &&& wth k = 0 <;> by_cases c3 : u &&& wth k = u <;> by_cases c4 : v &&& wth k = 0
      all_goals
        simp (disch := omega) only [li_0, li_1, li_2, li_3, li_4, li_5, li_6, li_7, li_8, li_9, li_10, li_12, li_13, li_14, li_15, li_16, li_20, li_24, li_25, li_31, li_32, li_40, li_48, li_54, li_56, li_64, li_72, li_97, li_99, li_100, li_112, li_122, li_144, li_145, li_155, li_157, li_200, li_216, li_255, li_256, li_432, li_437, li_438, li_462, li_463, li_713, li_900, li_940, lL_0, lL_1, lL_255, lL_1099511627776, neg_1, ltT, ltF, leT, leF, eqT, eqF, ltMT, ltMF, leMT, leMF, eqMF, eqMF', addM, inbT, clp, nI_add, subN, pk_mul, nzT, remN, shl1, bitN, bit0, bit1, lcE, lcLE, lcLT, LleT, LleF, LltT, LltF, LeqT, LeqF, ↓bndS, ↓bnvS, ↓lt_s1, bndS, bnvS, eq_self, ↓reduceIte, hv0, hu0, cm, fa_and, B_X12_areAgainst_33, B_X12_areAgainst_53, c1, c2, c3, c4]
        simp [hv0, hu0, hv1, hu1, c1, c2, c3, c4]
        try first
          | rfl
          | (exfalso; omega)
def agb (σ : Nat → Nat) (k b : Nat) : Bool := decide (0 < b) && agn (mean σ (TX σ 0)) (mean σ (TX σ b)) k
theorem st_against (x : Int32) (hI : Inv h) : ∃ v h1 h2, f_X12_against x h = some (v, h1) ∧ f_X13_against x h1 = some (v, h2) ∧ Inv h2 := by
  obtain ⟨tp, σ, nm, K, fd, fl, tn, hA, hC, hM⟩ := hI
  have hS := hA.2.1
  have M1 := hM.keep (th_Eq 0)
  have e5 := hS.1.1.2.2.2.2.1
  have h3 := hS.1.1.2.1
  have t3 : h.1 9 0 = nI (σ 3) := hC.2.1.1.1.2.2.2.1
  have t1 : h.1 7 1 = nI (σ 1) := hC.2.1.1.1.2.1
  have m1 := M1.2.1 1 (by omega)
  rcases m_isIn0 x (n := σ 1) (sI h 155 0 0) (by omega) with ⟨e, q⟩ | ⟨k, q1, rfl, e⟩
  · refine ⟨-1, h, sI h 155 0 0, ?_, ?_, tp, σ, nm, K, fd, fl, tn, hA, hC.lo hA (th_Lo 0), M1⟩
    · unfold f_X12_against
      by_cases h1 : x < 0
      · rw [if_pos h1]
      · rw [if_neg h1, if_neg]
        intro z
        rw [t1] at z
        rcases pk_ix x (n := σ 1) (by omega) with h2 | h2 | ⟨j, h2, h3⟩
        · exact h1 h2
        · exact absurd z (by rw [Int32.not_lt]; exact h2)
        · exact q j h2 h3
    · unfold f_X13_against
      rw [lt_s0, li_1, clp (by omega), m1]
      rw [li_1] at e
      rw [e, bndS, if_pos rfl]
  · obtain ⟨h2, e2, M2, L2⟩ := m_textMeans (b := 0) M1 hS (by omega)
    have l0 := mean_lt (σ := σ) (TX σ 0)
    have cA := fun b (hb : b < 1000) => c_means (b := b) hA hC hb
    obtain ⟨x, h3, e3, hx, M3, L3⟩ := loop3f (F := F_X13_against_34 (nI k) (nI (mean σ (TX σ 0))) (fun v29 h28 => some (v29, h28))) (k := fun v11 h10 => some (v11, h10)) 1 (σ 3 + 1) (by omega) (fun i x g => x = nI (bts (agb σ k) i) ∧ MR tp σ nm K fd fl tn g ∧ Lo h2 g) (fun self x g ⟨q1, q2, q3⟩ => by
      have g3 := q2.2.1 3 (by omega)
      unfold F_X13_against_34
      rw [li_3, clp (by omega), g3, if_pos (nI_lt (by omega) (by omega))]) (fun self i x g h1 hi ⟨p1, p2, p3⟩ => by
      have g3 := p2.2.1 3 (by omega)
      obtain ⟨g2, f2, N2, O2⟩ := m_textMeans (b := i) p2 hS (by omega)
      have l1 := mean_lt (σ := σ) (TX σ i)
      refine ⟨nI (bts (agb σ k) (i + 1)), g2, ?_, rfl, N2, p3.tr O2⟩
      have i0 : decide (0 < i) = true := decide_eq_true (by omega)
      rw [bts_s, p1]
      unfold F_X13_against_34
      have A1 : ∀ g : Hp, ∀ v, v < 256 → f_X13_isAll (nI v) (nI k) (nI 1) g = some (nI (allP (alP v k true) 0 8).toNat, g) := fun g v hv => m_isAll (s := true) hv (by omega)
      have A0 : ∀ g : Hp, ∀ v, v < 256 → f_X13_isAll (nI v) (nI k) (nI 0) g = some (nI (allP (alP v k false) 0 8).toNat, g) := fun g v hv => m_isAll (s := false) hv (by omega)
      unfold agb agn
      rw [i0]
      by_cases z0 : mean σ (TX σ 0) = 0
      · simp (disch := omega) only [li_0, li_1, li_2, li_3, li_4, li_5, li_6, li_7, li_8, li_9, li_10, li_12, li_13, li_14, li_15, li_16, li_20, li_24, li_25, li_31, li_32, li_40, li_48, li_54, li_56, li_64, li_72, li_97, li_99, li_100, li_112, li_122, li_144, li_145, li_155, li_157, li_200, li_216, li_255, li_256, li_432, li_437, li_438, li_462, li_463, li_713, li_900, li_940, lL_0, lL_1, lL_255, lL_1099511627776, neg_1, ltT, ltF, leT, leF, eqT, eqF, ltMT, ltMF, leMT, leMF, eqMF, eqMF', addM, inbT, clp, nI_add, subN, pk_mul, nzT, remN, shl1, bitN, bit0, bit1, lcE, lcLE, lcLT, LleT, LleF, LltT, LltF, LeqT, LeqF, ↓bndS, ↓bnvS, ↓lt_s1, bndS, bnvS, eq_self, ↓reduceIte, g3, f2, z0]
        simp
      · by_cases z1 : mean σ (TX σ i) = 0
        · simp (disch := omega) only [li_0, li_1, li_2, li_3, li_4, li_5, li_6, li_7, li_8, li_9, li_10, li_12, li_13, li_14, li_15, li_16, li_20, li_24, li_25, li_31, li_32, li_40, li_48, li_54, li_56, li_64, li_72, li_97, li_99, li_100, li_112, li_122, li_144, li_145, li_155, li_157, li_200, li_216, li_255, li_256, li_432, li_437, li_438, li_462, li_463, li_713, li_900, li_940, lL_0, lL_1, lL_255, lL_1099511627776, neg_1, ltT, ltF, leT, leF, eqT, eqF, ltMT, ltMF, leMT, leMF, eqMF, eqMF', addM, inbT, clp, nI_add, subN, pk_mul, nzT, remN, shl1, bitN, bit0, bit1, lcE, lcLE, lcLT, LleT, LleF, LltT, LltF, LeqT, LeqF, ↓bndS, ↓bnvS, ↓lt_s1, bndS, bnvS, eq_self, ↓reduceIte, g3, f2, z0, z1]
          simp
        · cases c1 : allP (alP (mean σ (TX σ 0)) k true) 0 8 <;> cases c2 : allP (alP (mean σ (TX σ i)) k false) 0 8 <;> cases c3 : allP (alP (mean σ (TX σ 0)) k false) 0 8 <;> cases c4 : allP (alP (mean σ (TX σ i)) k true) 0 8
          all_goals
            simp (disch := omega) only [li_0, li_1, li_2, li_3, li_4, li_5, li_6, li_7, li_8, li_9, li_10, li_12, li_13, li_14, li_15, li_16, li_20, li_24, li_25, li_31, li_32, li_40, li_48, li_54, li_56, li_64, li_72, li_97, li_99, li_100, li_112, li_122, li_144, li_145, li_155, li_157, li_200, li_216, li_255, li_256, li_432, li_437, li_438, li_462, li_463, li_713, li_900, li_940, lL_0, lL_1, lL_255, lL_1099511627776, neg_1, ltT, ltF, leT, leF, eqT, eqF, ltMT, ltMF, leMT, leMF, eqMF, eqMF', addM, inbT, clp, nI_add, subN, pk_mul, nzT, remN, shl1, bitN, bit0, bit1, lcE, lcLE, lcLT, LleT, LleF, LltT, LltF, LeqT, LeqF, ↓bndS, ↓bnvS, ↓lt_s1, bndS, bnvS, eq_self, ↓reduceIte, g3, f2, z0, z1, A1, A0, c1, c2, c3, c4, B_X13_against_85, Bool.true_eq_false, fa_or]
            simp [z0, z1]) (nI 0) h2 ⟨by rw [bts_1 (by simp [agb])], M2, Lo.rf⟩ (by omega)
    refine ⟨nI (bts (agb σ k) (σ 3 + 1)), h, h3, ?_, ?_, tp, σ, nm, K, fd, fl, tn, hA, hC.lo hA ((th_Lo 0).tr (L2.tr L3)), M3⟩
    · unfold f_X12_against
      rw [li_0, li_1, if_neg (nI_nlt (by omega) (by omega)), t1, if_pos (nI_lt q1 (by omega)), cA 0 (by omega), bndS]
      refine sq3 (σ 3) (fun i => nI (bts (agb σ k) (1 + i))) (fun i => nI (1 + i)) (fun _ => h) (fun self => ?_) (fun self i hi => ?_) (by omega) (by rw [bts_1 (by simp [agb])]) rfl rfl
      · unfold F_X12_against_48
        rw [t3, if_pos (nI_lt (by omega) (by omega)), Nat.add_comm]
      · have l1 := mean_lt (σ := σ) (TX σ (1 + i))
        have ag : ∀ v u, v < 256 → u < 256 → f_X12_areAgainst (nI v) (nI u) (nI k) h = some (nI (agn v u k).toNat, h) := fun v u hv hu => c_areAgainst (by omega) hv hu
        have i0 : decide (0 < 1 + i) = true := decide_eq_true (by omega)
        unfold F_X12_against_48
        rw [show 1 + (i + 1) = 1 + i + 1 by omega, bts_s]
        cases c1 : agn (mean σ (TX σ 0)) (mean σ (TX σ (1 + i))) k
        · have h2 : agb σ k (1 + i) = false := by unfold agb; rw [c1, Bool.and_false]
          simp (disch := omega) only [li_0, li_1, li_2, li_3, li_4, li_5, li_6, li_7, li_8, li_9, li_10, li_12, li_13, li_14, li_15, li_16, li_20, li_24, li_25, li_31, li_32, li_40, li_48, li_54, li_56, li_64, li_72, li_97, li_99, li_100, li_112, li_122, li_144, li_145, li_155, li_157, li_200, li_216, li_255, li_256, li_432, li_437, li_438, li_462, li_463, li_713, li_900, li_940, lL_0, lL_1, lL_255, lL_1099511627776, neg_1, ltT, ltF, leT, leF, eqT, eqF, ltMT, ltMF, leMT, leMF, eqMF, eqMF', addM, inbT, clp, nI_add, subN, pk_mul, nzT, remN, shl1, bitN, bit0, bit1, lcE, lcLE, lcLT, LleT, LleF, LltT, LltF, LeqT, LeqF, ↓bndS, ↓bnvS, ↓lt_s1, bndS, bnvS, eq_self, ↓reduceIte, t3, cA, ag, c1, h2, Bool.false_eq_true, Nat.or_zero]
        · have h2 : agb σ k (1 + i) = true := by unfold agb; rw [c1, i0]; rfl
          simp (disch := omega) only [li_0, li_1, li_2, li_3, li_4, li_5, li_6, li_7, li_8, li_9, li_10, li_12, li_13, li_14, li_15, li_16, li_20, li_24, li_25, li_31, li_32, li_40, li_48, li_54, li_56, li_64, li_72, li_97, li_99, li_100, li_112, li_122, li_144, li_145, li_155, li_157, li_200, li_216, li_255, li_256, li_432, li_437, li_438, li_462, li_463, li_713, li_900, li_940, lL_0, lL_1, lL_255, lL_1099511627776, neg_1, ltT, ltF, leT, leF, eqT, eqF, ltMT, ltMF, leMT, leMF, eqMF, eqMF', addM, inbT, clp, nI_add, subN, pk_mul, nzT, remN, shl1, bitN, bit0, bit1, lcE, lcLE, lcLT, LleT, LleF, LltT, LltF, LeqT, LeqF, ↓bndS, ↓bnvS, ↓lt_s1, bndS, bnvS, eq_self, ↓reduceIte, t3, cA, ag, c1, h2, Bool.true_eq_false, fa_or]
    · unfold f_X13_against
      rw [lt_s0, li_1, clp (by omega), m1]
      rw [li_1] at e
      rw [e, bndS, if_neg (by decide), li_0]
      rw [li_0] at e2
      rw [e2, bndS, e3, hx]
/-! TWICE -/
theorem st_twice (x y : Int32) (hI : Inv h) : ∃ v h1 h2, f_X12_twice x y h = some (v, h1) ∧ f_X13_twice x y h1 = some (v, h2) ∧ Inv h2 := by
  obtain ⟨tp, σ, nm, K, fd, fl, tn, hA, hC, hM⟩ := hI
  have hS := hA.2.1
  have e5 := hS.1.1.2.2.2.2.1
  have h8 := hS.1.1.2.2.1
  obtain ⟨-, -, -, e3, e3', e4, e4'⟩ := hS.1.1
  have t3 : h.1 9 0 = nI (σ 3) := hC.2.1.1.1.2.2.2.1
  have NO : (f_X12_twice x y h = some (-1, h)) → (f_X13_twice x y h = some (-1, sI h 155 0 0)) → ∃ v h1 h2, f_X12_twice x y h = some (v, h1) ∧ f_X13_twice x y h1 = some (v, h2) ∧ Inv h2 := fun a b => ⟨-1, h, sI h 155 0 0, a, b, tp, σ, nm, K, fd, fl, tn, hA, hC.lo hA (th_Lo 0), hM.keep (th_Eq 0)⟩
  have m3 := (hM.keep (th_Eq 0)).2.1 3 (by omega)
  have mF : ∀ z : Int32, (∀ b, 1 ≤ b → b ≤ σ 3 → z ≠ nI b) → f_X13_isIn z (nI 1) (nI (σ 3)) (sI h 155 (nI 0).toNatClampNeg 0) = some (nI 0, sI h 155 (nI 0).toNatClampNeg 0) := fun z hz => by
    rcases m_isIn z (a := 1) (b := σ 3) (sI h 155 (nI 0).toNatClampNeg 0) rfl rfl (by omega) (by omega) with ⟨e, -⟩ | ⟨j, q1, q2, q3, -⟩
    · exact e
    · exact absurd q3 (hz j q1 q2)
  rcases c_beg x t3 (by omega) with ⟨b, b1, hb, rfl, c1⟩ | ⟨c1, hb⟩
  · rcases c_beg y t3 (by omega) with ⟨c, b2, hc, rfl, c2⟩ | ⟨c2, hc⟩
    · obtain ⟨g, s1, s2, s3, s4⟩ := c_strike (b := b) hA hC (by omega)
      have C1 := hC.scr2 hA s4 (by decide)
      have ll := TX_len hS b
      have tm := TX_mem hS b
      have cm := c_meansBy (h := g) (t := 7) (r := 114) (b := c) (n := (TX σ b).length) (f := fun i => (TX σ b).getD i 0) C1.2.1.1 hS.1 s2 s3 (fun i hi => by
        show (TX σ b).getD i 0 < σ 2
        rw [show (TX σ b).getD i 0 = (TX σ b)[i] by simp [List.getD_eq_getElem?_getD, hi]]
        exact tm _ (List.getElem_mem hi)) (show _ ≤ 24 from ll) (by decide) (by omega)
      have M1 := (hM.hi (s4.hi (by decide))).keep (th_Eq 0)
      obtain ⟨h1, f1, z1, z2, z3, z4, z5⟩ := m_settle M1 hS.1
      have M2 := M1.settled z1 z2 z3 z4 z5
      obtain ⟨h2, f2, l1, l2, ⟨l3, l3'⟩, l4, l5, l6⟩ := m_leaveText (b := b) M2.2.1 hS.1 hS.2.1 (by omega)
      obtain ⟨g3, f3, w1, w2, w3⟩ := loop2f (F := F_X13_twice_46 (nI c) (fun h14 => bnv (f_X13_leave 161 (h14.1 155 27) (nI c) h14) fun h15 => bnd (f_X13_meant 162 (h15.1 155 27) h15) fun v17 h16 => some (v17, h16))) (k := fun h14 => bnv (f_X13_leave 161 (h14.1 155 27) (nI c) h14) fun h15 => bnd (f_X13_meant 162 (h15.1 155 27) h15) fun v17 h16 => some (v17, h16)) 0 (TX σ b).length (by omega) (fun i g => Same [161] h2 g ∧ g.2 = h2.2 ∧ ∀ k, k < i → g.1 161 k = nI ((TX σ b).getD k 0)) (fun self g ⟨q1, q0, q2⟩ => by
          have c0 : g.1 155 27 = nI (TX σ b).length := by rw [(q1 155 (by decide)).1]; exact l1
          unfold F_X13_twice_46
          exact if_pos (by rw [c0]; exact nI_le (Nat.le_refl _) (by omega))) (fun self i g _ hi ⟨q1, q0, q2⟩ => by
          have c0 : g.1 155 27 = nI (TX σ b).length := by rw [(q1 155 (by decide)).1]; exact l1
          have c3 : g.1 162 i = nI ((TX σ b).getD i 0) := by rw [(q1 162 (by decide)).1]; exact l2 i hi
          refine ⟨sI g 161 i (nI ((TX σ b).getD i 0)), ?_, q1.tr (Same.ofI (by decide)), q0, fun k hk => ?_⟩
          · unfold F_X13_twice_46
            simp (disch := omega) only [li_0, li_1, li_2, li_3, li_4, li_5, li_6, li_7, li_8, li_9, li_10, li_12, li_13, li_14, li_15, li_16, li_20, li_24, li_25, li_31, li_32, li_40, li_48, li_54, li_56, li_64, li_72, li_97, li_99, li_100, li_112, li_122, li_144, li_145, li_155, li_157, li_200, li_216, li_255, li_256, li_432, li_437, li_438, li_462, li_463, li_713, li_900, li_940, lL_0, lL_1, lL_255, lL_1099511627776, neg_1, ltT, ltF, leT, leF, eqT, eqF, ltMT, ltMF, leMT, leMF, eqMF, eqMF', addM, inbT, clp, nI_add, subN, pk_mul, nzT, remN, shl1, bitN, bit0, bit1, lcE, lcLE, lcLT, LleT, LleF, LltT, LltF, LeqT, LeqF, ↓bndS, ↓bnvS, ↓lt_s1, bndS, bnvS, eq_self, ↓reduceIte, c0, c3]
          · by_cases hk2 : k = i
            · subst hk2
              rw [sI_s]
            · rw [sI_nk1 hk2]
              exact q2 k (by omega)) h2 ⟨Same.rf, rfl, fun k hk => by omega⟩ (by omega)
      have g27 : g3.1 155 27 = nI (TX σ b).length := by rw [(w1 155 (by decide)).1]; exact l1
      obtain ⟨g4, f4, r1, r2, r3, r4, r5⟩ := m_leave (a := 161) (h := g3) (b := c) (n := (TX σ b).length) (f := fun i => (TX σ b).getD i 0) rfl ll w3 (by rw [(w1 155 (by decide)).1]; exact l5) (by rw [(w1 155 (by decide)).1]; exact l6) (by omega) (by omega) (by omega) (by omega)
      have S4 : Same [155, 161, 162] h1 g4 := l3.tr ((w1.mono (fun q hq => by simp only [List.mem_cons, List.not_mem_nil, or_false] at hq ⊢; omega)).tr (r3.mono (fun q hq => by simp only [List.mem_cons, List.not_mem_nil, or_false] at hq ⊢; omega)))
      have F4 : ∀ j, j ≠ 25 → j ≠ 26 → j ≠ 27 → g4.1 155 j = h1.1 155 j := fun j a1 a2 a3 => by rw [r5 j a3, (w1 155 (by decide)).1, l4 j a1 a2 a3]
      have L4 : g4.2 = h1.2 := by rw [r4, w2, l3']
      have q4 : EqM h1 g4 := EqM.ofSame S4 (by decide) (fun j hj => F4 j (fun z => by subst z; revert hj; decide) (fun z => by subst z; revert hj; decide) (fun z => by subst z; revert hj; decide)) (by rw [L4])
      have M4 := M2.keep q4
      have C4 : Cache σ g4 := by
        have := z5.2.2
        unfold Cache
        rw [(S4 166 (by decide)).1, (S4 165 (by decide)).1, (S4 164 (by decide)).1]
        exact this
      have e5 := m_meant (a := 162) (l := lf (stk (σ 3) (σ 4) c) (fun i => (TX σ b).getD i 0) (TX σ b).length) (h := g4) (fun k hk => M4.2.1 k (by omega)) C4 hS.1 (lf_mem _ _ _ (fun i hi => by
        show (TX σ b).getD i 0 < σ 2
        rw [show (TX σ b).getD i 0 = (TX σ b)[i] by simp [List.getD_eq_getElem?_getD, hi]]
        exact tm _ (List.getElem_mem hi))) (Nat.le_trans (lf_len _ _ _) ll) (by decide) r2
      refine ⟨nI (mean σ (lf (stk (σ 3) (σ 4) c) (fun i => (TX σ b).getD i 0) (TX σ b).length)), g, g4, ?_, ?_, tp, σ, nm, K, fd, fl, tn, hA, C1.lo hA ((th_Lo 0).tr ((z1.lo (by decide)).tr (S4.lo (by decide)))), M4⟩
      · unfold f_X12_twice
        rw [c1, bndS, if_neg (by decide), c2, bndS, if_neg (by decide), s1, bndS, if_pos (by decide), cm, bndS]
      · have g3 := M1.2.1 3 (by omega)
        unfold f_X13_twice
        rw [lt_s0, li_3, clp (by omega), g3, m_isIn_t (lo := 1) (a := 1) (b := σ 3) (j := b) _ rfl rfl rfl b1 hb (by omega), bndS, if_neg (by decide), g3, m_isIn_t (lo := 1) (a := 1) (b := σ 3) (j := c) _ rfl rfl rfl b2 hc (by omega), bndS, if_neg (by decide), f1, bnvS, f2, bnvS, li_0, f3]
        rw [g27, f4, bnvS, r1, e5, bndS]
    · refine NO ?_ ?_
      · unfold f_X12_twice
        rw [c1, bndS, if_neg (by decide), c2, bndS, if_pos (by decide)]
      · have mF2 := mF y hc
        rw [clp (by decide)] at mF2
        unfold f_X13_twice
        rw [lt_s0, li_3, clp (by omega), m3, m_isIn_t (lo := 1) (a := 1) (b := σ 3) (j := b) _ rfl rfl rfl b1 hb (by omega), bndS, if_neg (by decide), m3, li_1, mF2, bndS, if_pos (by decide)]
  · refine NO ?_ ?_
    · unfold f_X12_twice
      rw [c1, bndS, if_pos (by decide)]
    · have mF2 := mF x hb
      rw [clp (by decide)] at mF2
      unfold f_X13_twice
      rw [lt_s0, li_3, clp (by omega), m3, li_1, mF2, bndS, if_pos (by decide)]
end C3
