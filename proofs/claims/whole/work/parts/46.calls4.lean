section C4
variable {tp : List Nat} {σ τ : Nat → Nat} {nm : Nat → List Nat} {K : Im} {fd : List Nat} {fl : Nat} {tn : Option Tn} {h h' : Hp}
theorem c_hasSaying (x : Int32) {t n : Nat} (h2 : h.1 t 2 = nI n) (hn : n < 1000) : (∃ w, w < n ∧ x = nI w ∧ f_X10_hasSaying t x h = some (nI 1, h)) ∨ (f_X10_hasSaying t x h = some (nI 0, h) ∧ ∀ w, w < n → x ≠ nI w) := by
  unfold f_X10_hasSaying
  rcases pk_ix x (n := n) (by omega) with h1 | h1 | ⟨j, h1, rfl⟩
  · refine Or.inr ⟨by rw [if_pos h1]; rfl, fun w hw z => ?_⟩
    rw [z] at h1
    exact nI_pos (by omega) h1
  · refine Or.inr ⟨?_, fun w hw z => ?_⟩
    · by_cases h0 : x < 0
      · rw [if_pos h0]; rfl
      · rw [if_neg h0, h2, if_pos h1]; rfl
    · rw [z] at h1
      exact nI_ge hw (by omega) h1
  · exact Or.inl ⟨j, h1, rfl, by simp (disch := omega) only [li_0, li_1, li_2, li_3, li_4, li_5, li_6, li_7, li_8, li_9, li_10, li_12, li_13, li_14, li_15, li_16, li_20, li_24, li_25, li_31, li_32, li_40, li_48, li_54, li_56, li_64, li_72, li_97, li_99, li_100, li_112, li_122, li_144, li_145, li_155, li_157, li_200, li_216, li_255, li_256, li_432, li_437, li_438, li_462, li_463, li_713, li_900, li_940, lL_0, lL_1, lL_255, lL_1099511627776, neg_1, ltT, ltF, leT, leF, eqT, eqF, ltMT, ltMF, leMT, leMF, eqMF, eqMF', addM, inbT, clp, nI_add, subN, pk_mul, nzT, remN, shl1, bitN, bit0, bit1, lcE, lcLE, lcLT, LleT, LleF, LltT, LltF, LeqT, LeqF, ↓bndS, ↓bnvS, ↓lt_s1, bndS, bnvS, eq_self, ↓reduceIte, h2]⟩
theorem c_hasSort (x : Int32) {t n : Nat} (h2 : h.1 t 0 = nI n) (hn : n < 1000) : (∃ w, w < n ∧ x = nI w ∧ f_X10_hasSort t x h = some (nI 1, h)) ∨ (f_X10_hasSort t x h = some (nI 0, h) ∧ ∀ w, w < n → x ≠ nI w) := by
  unfold f_X10_hasSort
  rcases pk_ix x (n := n) (by omega) with h1 | h1 | ⟨j, h1, rfl⟩
  · refine Or.inr ⟨by rw [if_pos h1]; rfl, fun w hw z => ?_⟩
    rw [z] at h1
    exact nI_pos (by omega) h1
  · refine Or.inr ⟨?_, fun w hw z => ?_⟩
    · by_cases h0 : x < 0
      · rw [if_pos h0]; rfl
      · rw [if_neg h0, h2, if_pos h1]; rfl
    · rw [z] at h1
      exact nI_ge hw (by omega) h1
  · exact Or.inl ⟨j, h1, rfl, by simp (disch := omega) only [li_0, li_1, li_2, li_3, li_4, li_5, li_6, li_7, li_8, li_9, li_10, li_12, li_13, li_14, li_15, li_16, li_20, li_24, li_25, li_31, li_32, li_40, li_48, li_54, li_56, li_64, li_72, li_97, li_99, li_100, li_112, li_122, li_144, li_145, li_155, li_157, li_200, li_216, li_255, li_256, li_432, li_437, li_438, li_462, li_463, li_713, li_900, li_940, lL_0, lL_1, lL_255, lL_1099511627776, neg_1, ltT, ltF, leT, leF, eqT, eqF, ltMT, ltMF, leMT, leMF, eqMF, eqMF', addM, inbT, clp, nI_add, subN, pk_mul, nzT, remN, shl1, bitN, bit0, bit1, lcE, lcLE, lcLT, LleT, LleF, LltT, LltF, LeqT, LeqF, ↓bndS, ↓bnvS, ↓lt_s1, bndS, bnvS, eq_self, ↓reduceIte, h2]⟩
theorem c_isMeaning (x : Int32) : (∃ w, w < 8 ∧ x = nI w ∧ f_X12_isMeaning x h = some (nI 1, h)) ∨ (f_X12_isMeaning x h = some (nI 0, h) ∧ ∀ w, w < 8 → x ≠ nI w) := by
  unfold f_X12_isMeaning
  rcases pk_ix x (n := 8) (by omega) with h1 | h1 | ⟨j, h1, rfl⟩
  · refine Or.inr ⟨by rw [if_pos h1]; rfl, fun w hw z => ?_⟩
    rw [z] at h1
    exact nI_pos (by omega) h1
  · refine Or.inr ⟨?_, fun w hw z => ?_⟩
    · by_cases h0 : x < 0
      · rw [if_pos h0]; rfl
      · rw [if_neg h0, li_8, if_pos h1]; rfl
    · rw [z] at h1
      exact nI_ge hw (by omega) h1
  · exact Or.inl ⟨j, h1, rfl, by simp (disch := omega) only [li_0, li_1, li_2, li_3, li_4, li_5, li_6, li_7, li_8, li_9, li_10, li_12, li_13, li_14, li_15, li_16, li_20, li_24, li_25, li_31, li_32, li_40, li_48, li_54, li_56, li_64, li_72, li_97, li_99, li_100, li_112, li_122, li_144, li_145, li_155, li_157, li_200, li_216, li_255, li_256, li_432, li_437, li_438, li_462, li_463, li_713, li_900, li_940, lL_0, lL_1, lL_255, lL_1099511627776, neg_1, ltT, ltF, leT, leF, eqT, eqF, ltMT, ltMF, leMT, leMF, eqMF, eqMF', addM, inbT, clp, nI_add, subN, pk_mul, nzT, remN, shl1, bitN, bit0, bit1, lcE, lcLE, lcLT, LleT, LleF, LltT, LltF, LeqT, LeqF, ↓bndS, ↓bnvS, ↓lt_s1, bndS, bnvS, eq_self, ↓reduceIte]⟩
theorem m_inT {lo hi : Int32} {j n : Nat} (el : lo = nI 0) (eh : hi = nI n - nI 1) (hj : j < n) (hn : n < 1000) : f_X13_isIn (nI j) lo hi h = some (nI 1, h) := by
  subst el; subst eh
  obtain ⟨n, rfl⟩ : ∃ m, n = m + 1 := ⟨n - 1, by omega⟩
  rw [subN (by omega)]
  exact m_isIn_t (a := 0) (b := n + 1 - 1) (j := j) h rfl rfl rfl (by omega) (by omega) (by omega)
theorem m_inF {x lo hi : Int32} {n : Nat} (el : lo = nI 0) (eh : hi = nI n - nI 1) (hx : ∀ j, j < n → x ≠ nI j) (hn : n < 1000) : f_X13_isIn x lo hi h = some (nI 0, h) := by
  subst el; subst eh
  rcases m_isIn0 x (n := n) h (by omega) with ⟨e, -⟩ | ⟨j, q1, q2, -⟩
  · exact e
  · exact absurd q2 (hx j q1)
theorem m_sayT {w n : Nat} (h2 : h.1 157 2 = nI n) (hw : w < n) (hn : n < 1000) : f_X13_isSaying (nI w) h = some (nI 1, h) := by
  unfold f_X13_isSaying
  rw [li_2, clp (by omega), h2, li_0, li_1, m_inT rfl rfl hw hn, bndS]
  rfl
theorem m_sayF {x : Int32} {n : Nat} (h2 : h.1 157 2 = nI n) (hx : ∀ w, w < n → x ≠ nI w) (hn : n < 1000) : f_X13_isSaying x h = some (nI 0, h) := by
  unfold f_X13_isSaying
  rw [li_2, clp (by omega), h2, li_0, li_1, m_inF rfl rfl hx hn, bndS]
  rfl
theorem c_readsAs {t w k : Nat} (T : TgRep h t σ nm) (H : TgOk σ nm) (hw : w < 8) (hk : k < 5) : f_X10_readsAs t (nI w) (nI k) h = some (nI (decide (σ (72 + 5 * w + k) = 1)).toNat, h) := by
  have hr := T.2.2.2.2.2.1.1 w hw
  have rl := rds_lt H hw
  have rb := rds_bit H hw hk
  unfold f_X10_readsAs
  by_cases h1 : σ (72 + 5 * w + k) = 1
  · simp (disch := omega) only [li_0, li_1, li_2, li_3, li_4, li_5, li_6, li_7, li_8, li_9, li_10, li_12, li_13, li_14, li_15, li_16, li_20, li_24, li_25, li_31, li_32, li_40, li_48, li_54, li_56, li_64, li_72, li_97, li_99, li_100, li_112, li_122, li_144, li_145, li_155, li_157, li_200, li_216, li_255, li_256, li_432, li_437, li_438, li_462, li_463, li_713, li_900, li_940, lL_0, lL_1, lL_255, lL_1099511627776, neg_1, ltT, ltF, leT, leF, eqT, eqF, ltMT, ltMF, leMT, leMF, eqMF, eqMF', addM, inbT, clp, nI_add, subN, pk_mul, nzT, remN, shl1, bitN, bit0, bit1, lcE, lcLE, lcLT, LleT, LleF, LltT, LltF, LeqT, LeqF, ↓bndS, ↓bnvS, ↓lt_s1, bndS, bnvS, eq_self, ↓reduceIte, hr, rb, h1, decide_true, Bool.true_eq_false]
    rfl
  · simp (disch := omega) only [li_0, li_1, li_2, li_3, li_4, li_5, li_6, li_7, li_8, li_9, li_10, li_12, li_13, li_14, li_15, li_16, li_20, li_24, li_25, li_31, li_32, li_40, li_48, li_54, li_56, li_64, li_72, li_97, li_99, li_100, li_112, li_122, li_144, li_145, li_155, li_157, li_200, li_216, li_255, li_256, li_432, li_437, li_438, li_462, li_463, li_713, li_900, li_940, lL_0, lL_1, lL_255, lL_1099511627776, neg_1, ltT, ltF, leT, leF, eqT, eqF, ltMT, ltMF, leMT, leMF, eqMF, eqMF', addM, inbT, clp, nI_add, subN, pk_mul, nzT, remN, shl1, bitN, bit0, bit1, lcE, lcLE, lcLT, LleT, LleF, LltT, LltF, LeqT, LeqF, ↓bndS, ↓bnvS, ↓lt_s1, bndS, bnvS, eq_self, ↓reduceIte, hr, rb, h1, decide_false]
    rfl
theorem c_made {t w k m : Nat} (T : TgRep h t σ nm) (hw : w < 8) (hk : k < 5) (hm : m < 8) : f_X10_made t (nI w) (nI k) (nI m) h = some (nI (mk σ ((w * 5 + k) * 8 + m)), h) := by
  have hr := T.2.2.2.2.2.2.1
  unfold f_X10_made
  simp (disch := omega) only [li_0, li_1, li_2, li_3, li_4, li_5, li_6, li_7, li_8, li_9, li_10, li_12, li_13, li_14, li_15, li_16, li_20, li_24, li_25, li_31, li_32, li_40, li_48, li_54, li_56, li_64, li_72, li_97, li_99, li_100, li_112, li_122, li_144, li_145, li_155, li_157, li_200, li_216, li_255, li_256, li_432, li_437, li_438, li_462, li_463, li_713, li_900, li_940, lL_0, lL_1, lL_255, lL_1099511627776, neg_1, ltT, ltF, leT, leF, eqT, eqF, ltMT, ltMF, leMT, leMF, eqMF, eqMF', addM, inbT, clp, nI_add, subN, pk_mul, nzT, remN, shl1, bitN, bit0, bit1, lcE, lcLE, lcLT, LleT, LleF, LltT, LltF, LeqT, LeqF, ↓bndS, ↓bnvS, ↓lt_s1, bndS, bnvS, eq_self, ↓reduceIte, hr]
theorem mk_at {w k m : Nat} (hm : m < 8) (hr : σ (72 + 5 * w + k) = 1) : mk σ ((w * 5 + k) * 8 + m) = σ (112 + 8 * (5 * w + k) + m) := by
  unfold mk
  rw [show 72 + ((w * 5 + k) * 8 + m) / 8 = 72 + 5 * w + k by omega, if_pos hr]
  congr 1
  omega
theorem st_becomes (x y z : Int32) (hI : Inv h) : ∃ v h1 h2, f_X12_becomes x y z h = some (v, h1) ∧ f_X13_becomes x y z h1 = some (v, h2) ∧ Inv h2 := by
  obtain ⟨tp, σ, nm, K, fd, fl, tn, hA, hC, hM⟩ := hI
  have hS := hA.2.1
  have M1 := hM.keep (th_Eq 0)
  have i2 : Inv (sI h 155 0 0) := ⟨tp, σ, nm, K, fd, fl, tn, hA, hC.lo hA (th_Lo 0), M1⟩
  suffices H : ∃ v, f_X12_becomes x y z h = some (v, h) ∧ f_X13_becomes x y z h = some (v, sI h 155 0 0) by
    obtain ⟨v, e1, e2⟩ := H
    exact ⟨v, _, _, e1, e2, i2⟩
  obtain ⟨s5, -, s8, -⟩ := hS.1.1
  have t0 : h.1 7 0 = nI (σ 0) := hC.2.1.1.1.1
  have t2 : h.1 7 2 = nI (σ 2) := hC.2.1.1.1.2.2.1
  have ms := M1.2.1
  have m2 := ms 2 (by omega)
  have m0 := ms 0 (by omega)
  have z7 : ∀ g : Hp, (∀ w, w < 8 → z ≠ nI w) → f_X13_isIn z 0 7 g = some (nI 0, g) := fun g hz => m_inF (n := 8) rfl rfl hz (by omega)
  unfold f_X12_becomes f_X13_becomes
  rw [lt_s0]
  rcases c_isMeaning (h := h) z with ⟨m, hm, rfl, c1⟩ | ⟨c1, hz⟩
  · have z8 : ∀ g : Hp, f_X13_isIn (nI m) 0 7 g = some (nI 1, g) := fun g => m_inT (n := 8) rfl rfl hm (by omega)
    rcases c_hasSaying x t2 (by omega) with ⟨w, hw, rfl, c2⟩ | ⟨c2, hx⟩
    · have y1 := m_sayT (w := w) m2 hw (by omega)
      rcases c_hasSort y t0 (by omega) with ⟨k, hk, rfl, c3⟩ | ⟨c3, hy⟩
      · have c4 := c_readsAs (w := w) (k := k) (t := 7) hC.2.1.1 hS.1 (by omega) (by omega)
        have c5 := c_made (w := w) (k := k) (m := m) (t := 7) hC.2.1.1 (by omega) (by omega) hm
        have y2 : f_X13_isIn (nI k) 0 (nI (σ 0) - 1) (sI h 155 0 0) = some (nI 1, sI h 155 0 0) := m_inT (n := σ 0) rfl rfl hk (by omega)
        have l1 := hS.1.2.2.2.2.1 (72 + 5 * w + k) (by omega) (by omega)
        by_cases h1 : σ (72 + 5 * w + k) = 1
        · refine ⟨nI (σ (112 + 8 * (5 * w + k) + m)), ?_, ?_⟩
          · rw [mk_at hm h1] at c5
            rw [decide_eq_true h1, Bool.toNat_true] at c4
            rw [c1, bndS, if_neg (by decide), c2, bndS, if_neg (by decide), c3, bndS, if_neg (by decide), c4, bndS, if_neg (by decide), c5, bndS]
          · rw [y1, bndS, if_neg (by decide), show ((0 : Int32).toNatClampNeg) = 0 from rfl, m0, y2, bndS, if_neg (by decide), z8, bndS, if_neg (by decide)]
            rw [li_0] at ms ⊢
            simp (disch := omega) only [li_0, li_1, li_2, li_3, li_4, li_5, li_6, li_7, li_8, li_9, li_10, li_12, li_13, li_14, li_15, li_16, li_20, li_24, li_25, li_31, li_32, li_40, li_48, li_54, li_56, li_64, li_72, li_97, li_99, li_100, li_112, li_122, li_144, li_145, li_155, li_157, li_200, li_216, li_255, li_256, li_432, li_437, li_438, li_462, li_463, li_713, li_900, li_940, lL_0, lL_1, lL_255, lL_1099511627776, neg_1, ltT, ltF, leT, leF, eqT, eqF, ltMT, ltMF, leMT, leMF, eqMF, eqMF', addM, inbT, clp, nI_add, subN, pk_mul, nzT, remN, shl1, bitN, bit0, bit1, lcE, lcLE, lcLT, LleT, LleF, LltT, LltF, LeqT, LeqF, ↓bndS, ↓bnvS, ↓lt_s1, bndS, bnvS, eq_self, ↓reduceIte, ms, h1]
        · refine ⟨-1, ?_, ?_⟩
          · rw [decide_eq_false h1, Bool.toNat_false] at c4
            rw [c1, bndS, if_neg (by decide), c2, bndS, if_neg (by decide), c3, bndS, if_neg (by decide), c4, bndS, if_pos (by decide)]
          · rw [y1, bndS, if_neg (by decide), show ((0 : Int32).toNatClampNeg) = 0 from rfl, m0, y2, bndS, if_neg (by decide), z8, bndS, if_neg (by decide)]
            rw [li_0] at ms ⊢
            simp (disch := omega) only [li_0, li_1, li_2, li_3, li_4, li_5, li_6, li_7, li_8, li_9, li_10, li_12, li_13, li_14, li_15, li_16, li_20, li_24, li_25, li_31, li_32, li_40, li_48, li_54, li_56, li_64, li_72, li_97, li_99, li_100, li_112, li_122, li_144, li_145, li_155, li_157, li_200, li_216, li_255, li_256, li_432, li_437, li_438, li_462, li_463, li_713, li_900, li_940, lL_0, lL_1, lL_255, lL_1099511627776, neg_1, ltT, ltF, leT, leF, eqT, eqF, ltMT, ltMF, leMT, leMF, eqMF, eqMF', addM, inbT, clp, nI_add, subN, pk_mul, nzT, remN, shl1, bitN, bit0, bit1, lcE, lcLE, lcLT, LleT, LleF, LltT, LltF, LeqT, LeqF, ↓bndS, ↓bnvS, ↓lt_s1, bndS, bnvS, eq_self, ↓reduceIte, ms, h1]
      · have y2 : f_X13_isIn y 0 (nI (σ 0) - 1) (sI h 155 0 0) = some (nI 0, sI h 155 0 0) := m_inF (n := σ 0) rfl rfl hy (by omega)
        refine ⟨-1, ?_, ?_⟩
        · rw [c1, bndS, if_neg (by decide), c2, bndS, if_neg (by decide), c3, bndS, if_pos (by decide)]
        · rw [y1, bndS, if_neg (by decide), show ((0 : Int32).toNatClampNeg) = 0 from rfl, m0, y2, bndS, if_pos (by decide)]
    · have y1 := m_sayF m2 hx (by omega)
      refine ⟨-1, ?_, ?_⟩
      · rw [c1, bndS, if_neg (by decide), c2, bndS, if_pos (by decide)]
      · rw [y1, bndS, if_pos (by decide)]
  · refine ⟨-1, by rw [c1, bndS, if_pos (by decide)], ?_⟩
    rcases c_hasSaying x t2 (by omega) with ⟨w, hw, rfl, c2⟩ | ⟨c2, hx⟩
    · have y1 := m_sayT (w := w) m2 hw (by omega)
      rw [y1, bndS, if_neg (by decide), show ((0 : Int32).toNatClampNeg) = 0 from rfl, m0]
      rcases c_hasSort y t0 (by omega) with ⟨k, hk, rfl, c3⟩ | ⟨c3, hy⟩
      · have y2 : f_X13_isIn (nI k) 0 (nI (σ 0) - 1) (sI h 155 0 0) = some (nI 1, sI h 155 0 0) := m_inT (n := σ 0) rfl rfl hk (by omega)
        rw [y2, bndS, if_neg (by decide), z7 _ hz, bndS, if_pos (by decide)]
      · have y2 : f_X13_isIn y 0 (nI (σ 0) - 1) (sI h 155 0 0) = some (nI 0, sI h 155 0 0) := m_inF (n := σ 0) rfl rfl hy (by omega)
        rw [y2, bndS, if_pos (by decide)]
    · have y1 := m_sayF m2 hx (by omega)
      rw [y1, bndS, if_pos (by decide)]
/-! ALIKE -/
def ink (σ : Nat → Nat) (w v k : Nat) : Bool := if σ (72 + 5 * w + k) = 1 then allP (fun m => decide (σ (112 + 8 * (5 * w + k) + m) = σ (112 + 8 * (5 * v + k) + m))) 0 8 else true
def alk1 (σ : Nat → Nat) (w v k : Nat) : Bool := decide (σ (72 + 5 * w + k) = σ (72 + 5 * v + k)) && ink σ w v k
def alk (σ : Nat → Nat) (w v : Nat) : Bool := allP (alk1 σ w v) 0 5
theorem m_alike3 {w v k : Nat} {b : Bool} {x2 : Int32} (ms : ∀ k, k < 713 → h.1 157 k = nI (σ k)) (H : TgOk σ nm) (hw : w < 8) (hv : v < 8) (hk : k < 5) (kk : Int32 → Hp → Option (Int32 × Hp)) : itr3 (F_X13_alike_87 (nI w) x2 (nI v) (nI k) kk) N0 (nI b.toNat) (nI 0) h = kk (nI (b && ink σ w v k).toNat) h := by
  have l1 := H.2.2.2.2.1 (72 + 5 * w + k) (by omega) (by omega)
  by_cases h1 : σ (72 + 5 * w + k) = 1
  · refine sq3 8 (fun m => nI (b && allP (fun m => decide (σ (112 + 8 * (5 * w + k) + m) = σ (112 + 8 * (5 * v + k) + m))) 0 m).toNat) (fun m => nI m) (fun _ => h) (fun self => ?_) (fun self m hm => ?_) (by omega) (by rw [show allP _ 0 0 = true from rfl, Bool.and_true]) rfl rfl
    · unfold F_X13_alike_87 ink
      rw [if_pos h1]
      simp (disch := omega) only [li_0, li_1, li_2, li_3, li_4, li_5, li_6, li_7, li_8, li_9, li_10, li_12, li_13, li_14, li_15, li_16, li_20, li_24, li_25, li_31, li_32, li_40, li_48, li_54, li_56, li_64, li_72, li_97, li_99, li_100, li_112, li_122, li_144, li_145, li_155, li_157, li_200, li_216, li_255, li_256, li_432, li_437, li_438, li_462, li_463, li_713, li_900, li_940, lL_0, lL_1, lL_255, lL_1099511627776, neg_1, ltT, ltF, leT, leF, eqT, eqF, ltMT, ltMF, leMT, leMF, eqMF, eqMF', addM, inbT, clp, nI_add, subN, pk_mul, nzT, remN, shl1, bitN, bit0, bit1, lcE, lcLE, lcLT, LleT, LleF, LltT, LltF, LeqT, LeqF, ↓bndS, ↓bnvS, ↓lt_s1, bndS, bnvS, eq_self, ↓reduceIte]
    · have e1 : allP (fun m => decide (σ (112 + 8 * (5 * w + k) + m) = σ (112 + 8 * (5 * v + k) + m))) 0 (m + 1) = (allP (fun m => decide (σ (112 + 8 * (5 * w + k) + m) = σ (112 + 8 * (5 * v + k) + m))) 0 m && decide (σ (112 + 8 * (5 * w + k) + m) = σ (112 + 8 * (5 * v + k) + m))) := by
        show (_ && decide (σ (112 + 8 * (5 * w + k) + (0 + m)) = σ (112 + 8 * (5 * v + k) + (0 + m)))) = _
        rw [Nat.zero_add]
      have b1 := H.2.2.2.2.2.2.1 (8 * (5 * w + k) + m) (by omega)
      have b2 := H.2.2.2.2.2.2.1 (8 * (5 * v + k) + m) (by omega)
      rw [show 112 + (8 * (5 * w + k) + m) = 112 + 8 * (5 * w + k) + m by omega] at b1
      rw [show 112 + (8 * (5 * v + k) + m) = 112 + 8 * (5 * v + k) + m by omega] at b2
      unfold F_X13_alike_87
      rw [e1, ← Bool.and_assoc]
      cases (b && allP (fun m => decide (σ (112 + 8 * (5 * w + k) + m) = σ (112 + 8 * (5 * v + k) + m))) 0 m)
      · simp (disch := omega) only [li_0, li_1, li_2, li_3, li_4, li_5, li_6, li_7, li_8, li_9, li_10, li_12, li_13, li_14, li_15, li_16, li_20, li_24, li_25, li_31, li_32, li_40, li_48, li_54, li_56, li_64, li_72, li_97, li_99, li_100, li_112, li_122, li_144, li_145, li_155, li_157, li_200, li_216, li_255, li_256, li_432, li_437, li_438, li_462, li_463, li_713, li_900, li_940, lL_0, lL_1, lL_255, lL_1099511627776, neg_1, ltT, ltF, leT, leF, eqT, eqF, ltMT, ltMF, leMT, leMF, eqMF, eqMF', addM, inbT, clp, nI_add, subN, pk_mul, nzT, remN, shl1, bitN, bit0, bit1, lcE, lcLE, lcLT, LleT, LleF, LltT, LltF, LeqT, LeqF, ↓bndS, ↓bnvS, ↓lt_s1, bndS, bnvS, eq_self, ↓reduceIte, ms, h1, Bool.toNat_false, Bool.false_and]
      · by_cases h2 : σ (112 + 8 * (5 * w + k) + m) = σ (112 + 8 * (5 * v + k) + m)
        · simp (disch := omega) only [li_0, li_1, li_2, li_3, li_4, li_5, li_6, li_7, li_8, li_9, li_10, li_12, li_13, li_14, li_15, li_16, li_20, li_24, li_25, li_31, li_32, li_40, li_48, li_54, li_56, li_64, li_72, li_97, li_99, li_100, li_112, li_122, li_144, li_145, li_155, li_157, li_200, li_216, li_255, li_256, li_432, li_437, li_438, li_462, li_463, li_713, li_900, li_940, lL_0, lL_1, lL_255, lL_1099511627776, neg_1, ltT, ltF, leT, leF, eqT, eqF, ltMT, ltMF, leMT, leMF, eqMF, eqMF', addM, inbT, clp, nI_add, subN, pk_mul, nzT, remN, shl1, bitN, bit0, bit1, lcE, lcLE, lcLT, LleT, LleF, LltT, LltF, LeqT, LeqF, ↓bndS, ↓bnvS, ↓lt_s1, bndS, bnvS, eq_self, ↓reduceIte, ms, h1, Bool.toNat_true, Bool.true_and, h2, decide_true]
        · simp (disch := omega) only [li_0, li_1, li_2, li_3, li_4, li_5, li_6, li_7, li_8, li_9, li_10, li_12, li_13, li_14, li_15, li_16, li_20, li_24, li_25, li_31, li_32, li_40, li_48, li_54, li_56, li_64, li_72, li_97, li_99, li_100, li_112, li_122, li_144, li_145, li_155, li_157, li_200, li_216, li_255, li_256, li_432, li_437, li_438, li_462, li_463, li_713, li_900, li_940, lL_0, lL_1, lL_255, lL_1099511627776, neg_1, ltT, ltF, leT, leF, eqT, eqF, ltMT, ltMF, leMT, leMF, eqMF, eqMF', addM, inbT, clp, nI_add, subN, pk_mul, nzT, remN, shl1, bitN, bit0, bit1, lcE, lcLE, lcLT, LleT, LleF, LltT, LltF, LeqT, LeqF, ↓bndS, ↓bnvS, ↓lt_s1, bndS, bnvS, eq_self, ↓reduceIte, ms, h1, Bool.toNat_true, Bool.true_and, h2, decide_false, Bool.toNat_false]
  · refine sq3 0 (fun _ => nI b.toNat) (fun m => nI m) (fun _ => h) (fun self => ?_) (fun self m hm => by omega) (by omega) rfl rfl rfl
    unfold F_X13_alike_87 ink
    rw [if_neg h1, Bool.and_true]
    simp (disch := omega) only [li_0, li_1, li_2, li_3, li_4, li_5, li_6, li_7, li_8, li_9, li_10, li_12, li_13, li_14, li_15, li_16, li_20, li_24, li_25, li_31, li_32, li_40, li_48, li_54, li_56, li_64, li_72, li_97, li_99, li_100, li_112, li_122, li_144, li_145, li_155, li_157, li_200, li_216, li_255, li_256, li_432, li_437, li_438, li_462, li_463, li_713, li_900, li_940, lL_0, lL_1, lL_255, lL_1099511627776, neg_1, ltT, ltF, leT, leF, eqT, eqF, ltMT, ltMF, leMT, leMF, eqMF, eqMF', addM, inbT, clp, nI_add, subN, pk_mul, nzT, remN, shl1, bitN, bit0, bit1, lcE, lcLE, lcLT, LleT, LleF, LltT, LltF, LeqT, LeqF, ↓bndS, ↓bnvS, ↓lt_s1, bndS, bnvS, eq_self, ↓reduceIte, ms, h1]
theorem m_alike2 {w v : Nat} {x2 : Int32} (ms : ∀ k, k < 713 → h.1 157 k = nI (σ k)) (H : TgOk σ nm) (hw : w < 8) (hv : v < 8) (kk : Int32 → Hp → Option (Int32 × Hp)) : itr3 (F_X13_alike_35 (nI w) x2 (nI v) kk) N0 (nI 1) (nI 0) h = kk (nI (alk σ w v).toNat) h := by
  refine sq3 5 (fun k => nI (allP (alk1 σ w v) 0 k).toNat) (fun m => nI m) (fun _ => h) (fun self => ?_) (fun self k hk => ?_) (by omega) rfl rfl rfl
  · unfold F_X13_alike_35 alk
    simp (disch := omega) only [li_0, li_1, li_2, li_3, li_4, li_5, li_6, li_7, li_8, li_9, li_10, li_12, li_13, li_14, li_15, li_16, li_20, li_24, li_25, li_31, li_32, li_40, li_48, li_54, li_56, li_64, li_72, li_97, li_99, li_100, li_112, li_122, li_144, li_145, li_155, li_157, li_200, li_216, li_255, li_256, li_432, li_437, li_438, li_462, li_463, li_713, li_900, li_940, lL_0, lL_1, lL_255, lL_1099511627776, neg_1, ltT, ltF, leT, leF, eqT, eqF, ltMT, ltMF, leMT, leMF, eqMF, eqMF', addM, inbT, clp, nI_add, subN, pk_mul, nzT, remN, shl1, bitN, bit0, bit1, lcE, lcLE, lcLT, LleT, LleF, LltT, LltF, LeqT, LeqF, ↓bndS, ↓bnvS, ↓lt_s1, bndS, bnvS, eq_self, ↓reduceIte]
  · have e1 : allP (alk1 σ w v) 0 (k + 1) = (allP (alk1 σ w v) 0 k && alk1 σ w v k) := by
      show (_ && alk1 σ w v (0 + k)) = _
      rw [Nat.zero_add]
    have l1 := H.2.2.2.2.1 (72 + 5 * w + k) (by omega) (by omega)
    have l2 := H.2.2.2.2.1 (72 + 5 * v + k) (by omega) (by omega)
    have i0 := m_alike3 (x2 := x2) (b := false) ms H hw hv hk (fun v16 h15 => self v16 (nI (k + 1)) h15)
    have i1 := m_alike3 (x2 := x2) (b := true) ms H hw hv hk (fun v16 h15 => self v16 (nI (k + 1)) h15)
    rw [Bool.toNat_false] at i0
    rw [Bool.toNat_true] at i1
    unfold F_X13_alike_35
    rw [e1]
    generalize allP (alk1 σ w v) 0 k = cc
    unfold alk1
    cases cc
    · simp (disch := omega) only [li_0, li_1, li_2, li_3, li_4, li_5, li_6, li_7, li_8, li_9, li_10, li_12, li_13, li_14, li_15, li_16, li_20, li_24, li_25, li_31, li_32, li_40, li_48, li_54, li_56, li_64, li_72, li_97, li_99, li_100, li_112, li_122, li_144, li_145, li_155, li_157, li_200, li_216, li_255, li_256, li_432, li_437, li_438, li_462, li_463, li_713, li_900, li_940, lL_0, lL_1, lL_255, lL_1099511627776, neg_1, ltT, ltF, leT, leF, eqT, eqF, ltMT, ltMF, leMT, leMF, eqMF, eqMF', addM, inbT, clp, nI_add, subN, pk_mul, nzT, remN, shl1, bitN, bit0, bit1, lcE, lcLE, lcLT, LleT, LleF, LltT, LltF, LeqT, LeqF, ↓bndS, ↓bnvS, ↓lt_s1, bndS, bnvS, eq_self, ↓reduceIte, Bool.toNat_false, Bool.false_and]
      exact i0
    · by_cases h2 : σ (72 + 5 * w + k) = σ (72 + 5 * v + k)
      · simp (disch := omega) only [li_0, li_1, li_2, li_3, li_4, li_5, li_6, li_7, li_8, li_9, li_10, li_12, li_13, li_14, li_15, li_16, li_20, li_24, li_25, li_31, li_32, li_40, li_48, li_54, li_56, li_64, li_72, li_97, li_99, li_100, li_112, li_122, li_144, li_145, li_155, li_157, li_200, li_216, li_255, li_256, li_432, li_437, li_438, li_462, li_463, li_713, li_900, li_940, lL_0, lL_1, lL_255, lL_1099511627776, neg_1, ltT, ltF, leT, leF, eqT, eqF, ltMT, ltMF, leMT, leMF, eqMF, eqMF', addM, inbT, clp, nI_add, subN, pk_mul, nzT, remN, shl1, bitN, bit0, bit1, lcE, lcLE, lcLT, LleT, LleF, LltT, LltF, LeqT, LeqF, ↓bndS, ↓bnvS, ↓lt_s1, bndS, bnvS, eq_self, ↓reduceIte, ms, h2, Bool.toNat_true, Bool.true_and, decide_true]
        exact i1
      · simp (disch := omega) only [li_0, li_1, li_2, li_3, li_4, li_5, li_6, li_7, li_8, li_9, li_10, li_12, li_13, li_14, li_15, li_16, li_20, li_24, li_25, li_31, li_32, li_40, li_48, li_54, li_56, li_64, li_72, li_97, li_99, li_100, li_112, li_122, li_144, li_145, li_155, li_157, li_200, li_216, li_255, li_256, li_432, li_437, li_438, li_462, li_463, li_713, li_900, li_940, lL_0, lL_1, lL_255, lL_1099511627776, neg_1, ltT, ltF, leT, leF, eqT, eqF, ltMT, ltMF, leMT, leMF, eqMF, eqMF', addM, inbT, clp, nI_add, subN, pk_mul, nzT, remN, shl1, bitN, bit0, bit1, lcE, lcLE, lcLT, LleT, LleF, LltT, LltF, LeqT, LeqF, ↓bndS, ↓bnvS, ↓lt_s1, bndS, bnvS, eq_self, ↓reduceIte, ms, h2, Bool.toNat_true, Bool.true_and, decide_false, Bool.false_and, Bool.toNat_false]
        exact i0
theorem alk_eq (H : TgOk σ nm) {w v : Nat} (hw : w < 8) (hv : v < 8) : alk σ w v = (decide (rds σ w = rds σ v) && allP (fun i => decide (mk σ (w * 40 + i) = mk σ (v * 40 + i))) 0 40) := by
  have l : ∀ u k, u < 8 → k < 5 → σ (72 + 5 * u + k) ≤ 1 := fun u k h1 h2 => H.2.2.2.2.1 _ (by omega) (by omega)
  rw [Bool.eq_iff_iff, Bool.and_eq_true, decide_eq_true_eq]
  unfold alk
  rw [allP_t, allP_t]
  constructor
  · intro q
    have r : ∀ k, k < 5 → σ (72 + 5 * w + k) = σ (72 + 5 * v + k) := fun k hk => by
      have := q k hk
      unfold alk1 at this
      rw [Nat.zero_add, Bool.and_eq_true, decide_eq_true_eq] at this
      exact this.1
    refine ⟨?_, fun i hi => ?_⟩
    · unfold rds
      have r0 := r 0 (by omega)
      have r1 := r 1 (by omega)
      have r2 := r 2 (by omega)
      have r3 := r 3 (by omega)
      have r4 := r 4 (by omega)
      rw [show 72 + 5 * w + 0 = 72 + 5 * w by omega, show 72 + 5 * v + 0 = 72 + 5 * v by omega] at r0
      rw [show 72 + 5 * w + 1 = 73 + 5 * w by omega, show 72 + 5 * v + 1 = 73 + 5 * v by omega] at r1
      rw [show 72 + 5 * w + 2 = 74 + 5 * w by omega, show 72 + 5 * v + 2 = 74 + 5 * v by omega] at r2
      rw [show 72 + 5 * w + 3 = 75 + 5 * w by omega, show 72 + 5 * v + 3 = 75 + 5 * v by omega] at r3
      rw [show 72 + 5 * w + 4 = 76 + 5 * w by omega, show 72 + 5 * v + 4 = 76 + 5 * v by omega] at r4
      rw [r0, r1, r2, r3, r4]
    · rw [Nat.zero_add, decide_eq_true_eq]
      unfold mk
      rw [show 72 + (w * 40 + i) / 8 = 72 + 5 * w + i / 8 by omega, show 72 + (v * 40 + i) / 8 = 72 + 5 * v + i / 8 by omega, ← r (i / 8) (by omega)]
      by_cases h1 : σ (72 + 5 * w + i / 8) = 1
      · rw [if_pos h1, if_pos h1]
        have := q (i / 8) (by omega)
        unfold alk1 ink at this
        rw [Nat.zero_add, Bool.and_eq_true, if_pos h1, allP_t] at this
        have := this.2 (i % 8) (by omega)
        rw [Nat.zero_add, decide_eq_true_eq, show 112 + 8 * (5 * w + i / 8) + i % 8 = 112 + (w * 40 + i) by omega, show 112 + 8 * (5 * v + i / 8) + i % 8 = 112 + (v * 40 + i) by omega] at this
        exact this
      · rw [if_neg h1, if_neg h1]
        omega
  · intro ⟨q1, q2⟩ k hk
    have r : ∀ k, k < 5 → σ (72 + 5 * w + k) = σ (72 + 5 * v + k) := fun k hk => by
      have b1 := rds_bit H hw hk
      have b2 := rds_bit H hv hk
      rw [q1, b2] at b1
      have l1 := l w k hw hk
      have l2 := l v k hv hk
      by_cases h1 : σ (72 + 5 * w + k) = 1
      · rw [h1] at b1 ⊢
        simp at b1
        omega
      · have h3 : ¬ σ (72 + 5 * v + k) = 1 := fun z => by
          rw [z] at b1
          simp [h1] at b1
        omega
    rw [Nat.zero_add]
    unfold alk1 ink
    rw [Bool.and_eq_true, decide_eq_true_eq]
    refine ⟨r k hk, ?_⟩
    by_cases h1 : σ (72 + 5 * w + k) = 1
    · rw [if_pos h1, allP_t]
      intro m hm
      have := q2 (8 * k + m) (by omega)
      unfold mk at this
      rw [Nat.zero_add, decide_eq_true_eq, show 72 + (w * 40 + (8 * k + m)) / 8 = 72 + 5 * w + k by omega, show 72 + (v * 40 + (8 * k + m)) / 8 = 72 + 5 * v + k by omega, ← r k hk, if_pos h1, if_pos h1] at this
      rw [Nat.zero_add, decide_eq_true_eq, show 112 + 8 * (5 * w + k) + m = 112 + (w * 40 + (8 * k + m)) by omega, show 112 + 8 * (5 * v + k) + m = 112 + (v * 40 + (8 * k + m)) by omega]
      exact this
    · rw [if_neg h1]
theorem mk_lt (H : TgOk σ nm) {i : Nat} (hi : i < 320) : mk σ i < 8 := by
  unfold mk
  by_cases h1 : σ (72 + i / 8) = 1
  · rw [if_pos h1]; exact H.2.2.2.2.2.2.1 i hi
  · rw [if_neg h1]; omega
theorem c_readAlike {t w v : Nat} (T : TgRep h t σ nm) (H : TgOk σ nm) (hw : w < 8) (hv : v < 8) : f_X10_readAlike t (nI w) (nI v) h = some (nI (alk σ w v).toNat, h) := by
  have hr := T.2.2.2.2.2.1.1
  have hm := T.2.2.2.2.2.2.1
  have l1 := rds_lt H hw
  have l2 := rds_lt H hv
  rw [alk_eq H hw hv]
  unfold f_X10_readAlike
  by_cases h1 : rds σ w = rds σ v
  · have hr1 := hr w hw
    have hr2 := hr v hv
    rw [← h1] at hr2
    have al := allLoop (h := h) (F := F_X10_readAlike_23 t (nI w) (nI v) (nI 40) (fun h8 => some (nI 0, h8)) (fun h9 => some (nI 1, h9))) (k0 := some (nI 0, h)) (k1 := some (nI 1, h)) (fun i => decide (mk σ (w * 40 + i) = mk σ (v * 40 + i))) 0 40 (fun self => by unfold F_X10_readAlike_23; simp (disch := omega) only [li_0, li_1, li_2, li_3, li_4, li_5, li_6, li_7, li_8, li_9, li_10, li_12, li_13, li_14, li_15, li_16, li_20, li_24, li_25, li_31, li_32, li_40, li_48, li_54, li_56, li_64, li_72, li_97, li_99, li_100, li_112, li_122, li_144, li_145, li_155, li_157, li_200, li_216, li_255, li_256, li_432, li_437, li_438, li_462, li_463, li_713, li_900, li_940, lL_0, lL_1, lL_255, lL_1099511627776, neg_1, ltT, ltF, leT, leF, eqT, eqF, ltMT, ltMF, leMT, leMF, eqMF, eqMF', addM, inbT, clp, nI_add, subN, pk_mul, nzT, remN, shl1, bitN, bit0, bit1, lcE, lcLE, lcLT, LleT, LleF, LltT, LltF, LeqT, LeqF, ↓bndS, ↓bnvS, ↓lt_s1, bndS, bnvS, eq_self, ↓reduceIte]) (fun self i hi => by
        have b1 := mk_lt H (i := w * 40 + i) (by omega)
        have b2 := mk_lt H (i := v * 40 + i) (by omega)
        unfold F_X10_readAlike_23
        rw [Nat.zero_add]
        by_cases h3 : mk σ (w * 40 + i) = mk σ (v * 40 + i)
        · simp (disch := omega) only [li_0, li_1, li_2, li_3, li_4, li_5, li_6, li_7, li_8, li_9, li_10, li_12, li_13, li_14, li_15, li_16, li_20, li_24, li_25, li_31, li_32, li_40, li_48, li_54, li_56, li_64, li_72, li_97, li_99, li_100, li_112, li_122, li_144, li_145, li_155, li_157, li_200, li_216, li_255, li_256, li_432, li_437, li_438, li_462, li_463, li_713, li_900, li_940, lL_0, lL_1, lL_255, lL_1099511627776, neg_1, ltT, ltF, leT, leF, eqT, eqF, ltMT, ltMF, leMT, leMF, eqMF, eqMF', addM, inbT, clp, nI_add, subN, pk_mul, nzT, remN, shl1, bitN, bit0, bit1, lcE, lcLE, lcLT, LleT, LleF, LltT, LltF, LeqT, LeqF, ↓bndS, ↓bnvS, ↓lt_s1, bndS, bnvS, eq_self, ↓reduceIte, hm, h3, decide_true]
        · simp (disch := omega) only [li_0, li_1, li_2, li_3, li_4, li_5, li_6, li_7, li_8, li_9, li_10, li_12, li_13, li_14, li_15, li_16, li_20, li_24, li_25, li_31, li_32, li_40, li_48, li_54, li_56, li_64, li_72, li_97, li_99, li_100, li_112, li_122, li_144, li_145, li_155, li_157, li_200, li_216, li_255, li_256, li_432, li_437, li_438, li_462, li_463, li_713, li_900, li_940, lL_0, lL_1, lL_255, lL_1099511627776, neg_1, ltT, ltF, leT, leF, eqT, eqF, ltMT, ltMF, leMT, leMF, eqMF, eqMF', addM, inbT, clp, nI_add, subN, pk_mul, nzT, remN, shl1, bitN, bit0, bit1, lcE, lcLE, lcLT, LleT, LleF, LltT, LltF, LeqT, LeqF, ↓bndS, ↓bnvS, ↓lt_s1, bndS, bnvS, eq_self, ↓reduceIte, hm, h3, decide_false, Bool.false_eq_true]) (by decide)
    simp (disch := omega) only [li_0, li_1, li_2, li_3, li_4, li_5, li_6, li_7, li_8, li_9, li_10, li_12, li_13, li_14, li_15, li_16, li_20, li_24, li_25, li_31, li_32, li_40, li_48, li_54, li_56, li_64, li_72, li_97, li_99, li_100, li_112, li_122, li_144, li_145, li_155, li_157, li_200, li_216, li_255, li_256, li_432, li_437, li_438, li_462, li_463, li_713, li_900, li_940, lL_0, lL_1, lL_255, lL_1099511627776, neg_1, ltT, ltF, leT, leF, eqT, eqF, ltMT, ltMF, leMT, leMF, eqMF, eqMF', addM, inbT, clp, nI_add, subN, pk_mul, nzT, remN, shl1, bitN, bit0, bit1, lcE, lcLE, lcLT, LleT, LleF, LltT, LltF, LeqT, LeqF, ↓bndS, ↓bnvS, ↓lt_s1, bndS, bnvS, eq_self, ↓reduceIte, hr1, hr2, h1, decide_true, Bool.true_and, al]
    cases allP (fun i => decide (mk σ (w * 40 + i) = mk σ (v * 40 + i))) 0 40 <;> rfl
  · simp (disch := omega) only [li_0, li_1, li_2, li_3, li_4, li_5, li_6, li_7, li_8, li_9, li_10, li_12, li_13, li_14, li_15, li_16, li_20, li_24, li_25, li_31, li_32, li_40, li_48, li_54, li_56, li_64, li_72, li_97, li_99, li_100, li_112, li_122, li_144, li_145, li_155, li_157, li_200, li_216, li_255, li_256, li_432, li_437, li_438, li_462, li_463, li_713, li_900, li_940, lL_0, lL_1, lL_255, lL_1099511627776, neg_1, ltT, ltF, leT, leF, eqT, eqF, ltMT, ltMF, leMT, leMF, eqMF, eqMF', addM, inbT, clp, nI_add, subN, pk_mul, nzT, remN, shl1, bitN, bit0, bit1, lcE, lcLE, lcLT, LleT, LleF, LltT, LltF, LeqT, LeqF, ↓bndS, ↓bnvS, ↓lt_s1, bndS, bnvS, eq_self, ↓reduceIte, hr, h1, decide_false, Bool.false_and, Bool.toNat_false]
theorem st_alike (x : Int32) (hI : Inv h) : ∃ v h1 h2, f_X12_alike x h = some (v, h1) ∧ f_X13_alike x h1 = some (v, h2) ∧ Inv h2 := by
  obtain ⟨tp, σ, nm, K, fd, fl, tn, hA, hC, hM⟩ := hI
  have hS := hA.2.1
  have M1 := hM.keep (th_Eq 0)
  have i2 : Inv (sI h 155 0 0) := ⟨tp, σ, nm, K, fd, fl, tn, hA, hC.lo hA (th_Lo 0), M1⟩
  suffices H : ∃ v, f_X12_alike x h = some (v, h) ∧ f_X13_alike x h = some (v, sI h 155 0 0) by
    obtain ⟨v, e1, e2⟩ := H
    exact ⟨v, _, _, e1, e2, i2⟩
  obtain ⟨s5, -, s8, -⟩ := hS.1.1
  have t2 : h.1 7 2 = nI (σ 2) := hC.2.1.1.1.2.2.1
  have ms := M1.2.1
  have m2 := ms 2 (by omega)
  rcases c_hasSaying x t2 (by omega) with ⟨w, hw, rfl, c2⟩ | ⟨c2, hx⟩
  · refine ⟨nI (bts (alk σ w) (σ 2)), ?_, ?_⟩
    · unfold f_X12_alike
      rw [c2, bndS, if_neg (by decide), li_0]
      refine sq3 (σ 2) (fun i => nI (bts (alk σ w) i)) (fun i => nI i) (fun _ => h) (fun self => ?_) (fun self i hi => ?_) (by omega) rfl rfl rfl
      · unfold F_X12_alike_23
        simp (disch := omega) only [li_0, li_1, li_2, li_3, li_4, li_5, li_6, li_7, li_8, li_9, li_10, li_12, li_13, li_14, li_15, li_16, li_20, li_24, li_25, li_31, li_32, li_40, li_48, li_54, li_56, li_64, li_72, li_97, li_99, li_100, li_112, li_122, li_144, li_145, li_155, li_157, li_200, li_216, li_255, li_256, li_432, li_437, li_438, li_462, li_463, li_713, li_900, li_940, lL_0, lL_1, lL_255, lL_1099511627776, neg_1, ltT, ltF, leT, leF, eqT, eqF, ltMT, ltMF, leMT, leMF, eqMF, eqMF', addM, inbT, clp, nI_add, subN, pk_mul, nzT, remN, shl1, bitN, bit0, bit1, lcE, lcLE, lcLT, LleT, LleF, LltT, LltF, LeqT, LeqF, ↓bndS, ↓bnvS, ↓lt_s1, bndS, bnvS, eq_self, ↓reduceIte, t2]
      · have c1 := c_readAlike (t := 7) (w := w) (v := i) hC.2.1.1 hS.1 (by omega) (by omega)
        unfold F_X12_alike_23
        rw [bts_s]
        cases h1 : alk σ w i
        · simp (disch := omega) only [li_0, li_1, li_2, li_3, li_4, li_5, li_6, li_7, li_8, li_9, li_10, li_12, li_13, li_14, li_15, li_16, li_20, li_24, li_25, li_31, li_32, li_40, li_48, li_54, li_56, li_64, li_72, li_97, li_99, li_100, li_112, li_122, li_144, li_145, li_155, li_157, li_200, li_216, li_255, li_256, li_432, li_437, li_438, li_462, li_463, li_713, li_900, li_940, lL_0, lL_1, lL_255, lL_1099511627776, neg_1, ltT, ltF, leT, leF, eqT, eqF, ltMT, ltMF, leMT, leMF, eqMF, eqMF', addM, inbT, clp, nI_add, subN, pk_mul, nzT, remN, shl1, bitN, bit0, bit1, lcE, lcLE, lcLT, LleT, LleF, LltT, LltF, LeqT, LeqF, ↓bndS, ↓bnvS, ↓lt_s1, bndS, bnvS, eq_self, ↓reduceIte, t2, c1, h1, Bool.false_eq_true, Nat.or_zero]
        · simp (disch := omega) only [li_0, li_1, li_2, li_3, li_4, li_5, li_6, li_7, li_8, li_9, li_10, li_12, li_13, li_14, li_15, li_16, li_20, li_24, li_25, li_31, li_32, li_40, li_48, li_54, li_56, li_64, li_72, li_97, li_99, li_100, li_112, li_122, li_144, li_145, li_155, li_157, li_200, li_216, li_255, li_256, li_432, li_437, li_438, li_462, li_463, li_713, li_900, li_940, lL_0, lL_1, lL_255, lL_1099511627776, neg_1, ltT, ltF, leT, leF, eqT, eqF, ltMT, ltMF, leMT, leMF, eqMF, eqMF', addM, inbT, clp, nI_add, subN, pk_mul, nzT, remN, shl1, bitN, bit0, bit1, lcE, lcLE, lcLT, LleT, LleF, LltT, LltF, LeqT, LeqF, ↓bndS, ↓bnvS, ↓lt_s1, bndS, bnvS, eq_self, ↓reduceIte, t2, c1, h1, Bool.true_eq_false, fa_or]
    · unfold f_X13_alike
      rw [lt_s0, m_sayT m2 hw (by omega), bndS, if_neg (by decide), li_0]
      rw [li_0] at ms m2
      refine sq3 (σ 2) (fun i => nI (bts (alk σ w) i)) (fun i => nI i) (fun _ => sI h 155 0 (nI 0)) (fun self => ?_) (fun self i hi => ?_) (by omega) rfl rfl rfl
      · unfold F_X13_alike_19
        simp (disch := omega) only [li_0, li_1, li_2, li_3, li_4, li_5, li_6, li_7, li_8, li_9, li_10, li_12, li_13, li_14, li_15, li_16, li_20, li_24, li_25, li_31, li_32, li_40, li_48, li_54, li_56, li_64, li_72, li_97, li_99, li_100, li_112, li_122, li_144, li_145, li_155, li_157, li_200, li_216, li_255, li_256, li_432, li_437, li_438, li_462, li_463, li_713, li_900, li_940, lL_0, lL_1, lL_255, lL_1099511627776, neg_1, ltT, ltF, leT, leF, eqT, eqF, ltMT, ltMF, leMT, leMF, eqMF, eqMF', addM, inbT, clp, nI_add, subN, pk_mul, nzT, remN, shl1, bitN, bit0, bit1, lcE, lcLE, lcLT, LleT, LleF, LltT, LltF, LeqT, LeqF, ↓bndS, ↓bnvS, ↓lt_s1, bndS, bnvS, eq_self, ↓reduceIte, m2]
      · have c1 := fun kk => m_alike2 (x2 := nI (bts (alk σ w) i)) (w := w) (v := i) ms hS.1 (by omega) (by omega) kk
        unfold F_X13_alike_19
        rw [bts_s]
        cases h1 : alk σ w i
        · simp (disch := omega) only [li_0, li_1, li_2, li_3, li_4, li_5, li_6, li_7, li_8, li_9, li_10, li_12, li_13, li_14, li_15, li_16, li_20, li_24, li_25, li_31, li_32, li_40, li_48, li_54, li_56, li_64, li_72, li_97, li_99, li_100, li_112, li_122, li_144, li_145, li_155, li_157, li_200, li_216, li_255, li_256, li_432, li_437, li_438, li_462, li_463, li_713, li_900, li_940, lL_0, lL_1, lL_255, lL_1099511627776, neg_1, ltT, ltF, leT, leF, eqT, eqF, ltMT, ltMF, leMT, leMF, eqMF, eqMF', addM, inbT, clp, nI_add, subN, pk_mul, nzT, remN, shl1, bitN, bit0, bit1, lcE, lcLE, lcLT, LleT, LleF, LltT, LltF, LeqT, LeqF, ↓bndS, ↓bnvS, ↓lt_s1, bndS, bnvS, eq_self, ↓reduceIte, m2, c1, h1, Bool.false_eq_true, fa_or]
        · simp (disch := omega) only [li_0, li_1, li_2, li_3, li_4, li_5, li_6, li_7, li_8, li_9, li_10, li_12, li_13, li_14, li_15, li_16, li_20, li_24, li_25, li_31, li_32, li_40, li_48, li_54, li_56, li_64, li_72, li_97, li_99, li_100, li_112, li_122, li_144, li_145, li_155, li_157, li_200, li_216, li_255, li_256, li_432, li_437, li_438, li_462, li_463, li_713, li_900, li_940, lL_0, lL_1, lL_255, lL_1099511627776, neg_1, ltT, ltF, leT, leF, eqT, eqF, ltMT, ltMF, leMT, leMF, eqMF, eqMF', addM, inbT, clp, nI_add, subN, pk_mul, nzT, remN, shl1, bitN, bit0, bit1, lcE, lcLE, lcLT, LleT, LleF, LltT, LltF, LeqT, LeqF, ↓bndS, ↓bnvS, ↓lt_s1, bndS, bnvS, eq_self, ↓reduceIte, m2, c1, h1, Bool.true_eq_false, fa_or]
  · refine ⟨-1, ?_, ?_⟩
    · unfold f_X12_alike
      rw [c2, bndS, if_pos (by decide)]
    · unfold f_X13_alike
      rw [lt_s0, m_sayF m2 hx (by omega), bndS, if_pos (by decide)]
end C4
