section TORN9
variable {σ : Nat → Nat} {nm : Nat → List Nat} {h h' : Hp}
theorem loopQ2 {A β : Type} {F : (A → Hp → Option β) → A → Hp → Option β} {k : Hp → Option β} (n : Nat) (u : Nat → A) (P : Nat → Hp → Prop) (hx : ∀ self h, P n h → F self (u n) h = k h) (hs : ∀ self i h, i < n → P i h → ∃ h', F self (u i) h = self (u (i + 1)) h' ∧ P (i + 1) h') (h : Hp) (h0 : P 0 h) (hn : n ≤ 1000000) : ∃ h', itr2 F N0 (u 0) h = k h' ∧ P n h' := by
  refine itr2_loop (F := F) (fun r => ∃ h', r = k h' ∧ P n h') (fun d a h => ∃ i, i ≤ n ∧ d = n - i ∧ a = u i ∧ P i h) ?_ n (u 0) h N0 (by have := N0_big; omega) ⟨0, by omega, by omega, rfl, h0⟩
  intro d self a h ⟨i, h1, h2, h3, h4⟩
  subst h3
  by_cases hi : i = n
  · subst hi
    exact Or.inl ⟨h, hx self h h4, h4⟩
  · obtain ⟨h', e1, e2⟩ := hs self i h (by omega) h4
    exact Or.inr ⟨n - (i + 1), u (i + 1), h', by omega, ⟨i + 1, by omega, rfl, rfl, e2⟩, e1⟩
theorem wgt_l (H : TgOk σ nm) {p : Option Nat} {w : Nat} (hw : w < σ 2) : wgt σ p w ≤ 60 := by
  cases p with
  | none => exact (H.2.2.2.1 w hw).2.2.1
  | some v => show 1 ≤ 60; decide
theorem m_best32 {l : Nat → Option Nat} {n i o w c : Nat} {g : Nat → Nat} (B : TM σ l n h) (hL : LtOk l) (H : TgOk σ nm) (hi : i < n) (hn : n ≤ 12) (ho : o < 5) (hw : w < σ 2) (hg : ∀ k, k < 5 → h.2.1 182 (5 * (i + 1) + k) = lN (g k) ∧ wgt σ (l i) w * g k < 4611686018427387904) (hc : c < 4611686018427387904) (kk : Int64 → Hp → Option (Int64 × Hp)) : itr3 (F_X13_bestFrom_32 (nI i) (nI o) (nI w) kk) N0 (lN c) (nI 0) h = kk (lN (max c (mx (gv σ (l i) g o w) 5))) h := by
  have h8 := H.1.2.2.1
  have mxl : ∀ k, k ≤ 5 → mx (gv σ (l i) g o w) k < 4611686018427387904 := fun k hk => by
    have := (mx_le (f := gv σ (l i) g o w) (c := 4611686018427387903) k).mpr (fun j hj => by
      have := (hg j (by omega)).2
      unfold gv
      by_cases h1 : σ (72 + 5 * w + j) = 1 ∧ fol σ o j = 1
      · rw [if_pos h1]; omega
      · rw [if_neg h1]; omega)
    omega
  refine sq3 5 (fun k => lN (max c (mx (gv σ (l i) g o w) k))) (fun k => nI k) (fun _ => h) (fun self => ?_) (fun self k hk => ?_) (by omega) (by show lN (max c 0) = _; rw [Nat.max_zero]) rfl rfl
  · unfold F_X13_bestFrom_32
    simp (disch := omega) only [li_0, li_1, li_2, li_3, li_4, li_5, li_6, li_7, li_8, li_9, li_10, li_12, li_13, li_14, li_15, li_16, li_20, li_24, li_25, li_31, li_32, li_40, li_48, li_54, li_56, li_64, li_72, li_97, li_99, li_100, li_112, li_122, li_144, li_145, li_155, li_157, li_200, li_216, li_255, li_256, li_432, li_437, li_438, li_462, li_463, li_713, li_900, li_940, lL_0, lL_1, lL_255, lL_1099511627776, neg_1, ltT, ltF, leT, leF, eqT, eqF, ltMT, ltMF, leMT, leMF, eqMF, eqMF', addM, inbT, clp, nI_add, subN, pk_mul, nzT, remN, shl1, bitN, bit0, bit1, lcE, lcLE, lcLT, LleT, LleF, LltT, LltF, LeqT, LeqF, ↓bndS, ↓bnvS, ↓lt_s1, bndS, bnvS, eq_self, ↓reduceIte]
  · have em : mx (gv σ (l i) g o w) (k + 1) = max (mx (gv σ (l i) g o w) k) (gv σ (l i) g o w k) := rfl
    have m1 := B.1 (72 + 5 * w + k) (by omega)
    have f1 := H.2.2.2.2.1 (72 + 5 * w + k) (by omega) (by omega)
    have m2 := B.1 (15 + 5 * o + k) (by omega)
    have f2 := H.2.1 (15 + 5 * o + k) (by omega) (by omega)
    have mk1 := mxl k (by omega)
    have ml := B.2 i hi
    have w60 := wgt_l (p := l i) H hw
    have lg := (lI_neg (p := l i) (hL i)).2
    obtain ⟨gk, gl⟩ := hg k hk
    unfold F_X13_bestFrom_32
    rw [em]
    by_cases h1 : σ (72 + 5 * w + k) = 1
    · by_cases h2 : σ (15 + 5 * o + k) = 1
      · have ev : gv σ (l i) g o w k = wgt σ (l i) w * g k := if_pos ⟨h1, by rw [fol_n ho]; exact h2⟩
        have cmp := LleN (a := g k * wgt σ (l i) w) (b := max c (mx (gv σ (l i) g o w) k)) (by rw [Nat.mul_comm]; exact gl) (Nat.max_lt.mpr ⟨hc, mk1⟩)
        have key : B_X13_bestFrom_112 (nI i) (nI o) (nI w) kk self (lN (max c (mx (gv σ (l i) g o w) k))) (nI k) (nI (wgt σ (l i) w)) (lN (g k)) h = self (lN (max c (max (mx (gv σ (l i) g o w) k) (gv σ (l i) g o w k)))) (nI (k + 1)) h := by
          unfold B_X13_bestFrom_112
          rw [ev]
          by_cases h3 : g k * wgt σ (l i) w ≤ max c (mx (gv σ (l i) g o w) k)
          · simp (disch := omega) only [li_0, li_1, li_2, li_3, li_4, li_5, li_6, li_7, li_8, li_9, li_10, li_12, li_13, li_14, li_15, li_16, li_20, li_24, li_25, li_31, li_32, li_40, li_48, li_54, li_56, li_64, li_72, li_97, li_99, li_100, li_112, li_122, li_144, li_145, li_155, li_157, li_200, li_216, li_255, li_256, li_432, li_437, li_438, li_462, li_463, li_713, li_900, li_940, lL_0, lL_1, lL_255, lL_1099511627776, neg_1, ltT, ltF, leT, leF, eqT, eqF, ltMT, ltMF, leMT, leMF, eqMF, eqMF', addM, inbT, clp, nI_add, subN, pk_mul, nzT, remN, shl1, bitN, bit0, bit1, lcE, lcLE, lcLT, LleT, LleF, LltT, LltF, LeqT, LeqF, ↓bndS, ↓bnvS, ↓lt_s1, bndS, bnvS, eq_self, ↓reduceIte, ItoL, lN_mul, cmp, h3]
            rw [← Nat.max_assoc, Nat.mul_comm (wgt σ (l i) w) (g k), Nat.max_eq_left h3]
          · simp (disch := omega) only [li_0, li_1, li_2, li_3, li_4, li_5, li_6, li_7, li_8, li_9, li_10, li_12, li_13, li_14, li_15, li_16, li_20, li_24, li_25, li_31, li_32, li_40, li_48, li_54, li_56, li_64, li_72, li_97, li_99, li_100, li_112, li_122, li_144, li_145, li_155, li_157, li_200, li_216, li_255, li_256, li_432, li_437, li_438, li_462, li_463, li_713, li_900, li_940, lL_0, lL_1, lL_255, lL_1099511627776, neg_1, ltT, ltF, leT, leF, eqT, eqF, ltMT, ltMF, leMT, leMF, eqMF, eqMF', addM, inbT, clp, nI_add, subN, pk_mul, nzT, remN, shl1, bitN, bit0, bit1, lcE, lcLE, lcLT, LleT, LleF, LltT, LltF, LeqT, LeqF, ↓bndS, ↓bnvS, ↓lt_s1, bndS, bnvS, eq_self, ↓reduceIte, ItoL, lN_mul, cmp, h3]
            rw [← Nat.max_assoc, Nat.mul_comm (wgt σ (l i) w) (g k), Nat.max_eq_right (Nat.le_of_not_le h3)]
        rw [← key]
        cases hp : l i with
        | none =>
          rw [hp] at ml lg
          have m3 := B.1 (48 + w) (by omega)
          have ng : ¬ (nI 0 ≤ lI none) := fun z => (show (0 : Int32) ≤ lI none → False from fun q => (lg.mp q) rfl) z
          simp (disch := omega) only [li_0, li_1, li_2, li_3, li_4, li_5, li_6, li_7, li_8, li_9, li_10, li_12, li_13, li_14, li_15, li_16, li_20, li_24, li_25, li_31, li_32, li_40, li_48, li_54, li_56, li_64, li_72, li_97, li_99, li_100, li_112, li_122, li_144, li_145, li_155, li_157, li_200, li_216, li_255, li_256, li_432, li_437, li_438, li_462, li_463, li_713, li_900, li_940, lL_0, lL_1, lL_255, lL_1099511627776, neg_1, ltT, ltF, leT, leF, eqT, eqF, ltMT, ltMF, leMT, leMF, eqMF, eqMF', addM, inbT, clp, nI_add, subN, pk_mul, nzT, remN, shl1, bitN, bit0, bit1, lcE, lcLE, lcLT, LleT, LleF, LltT, LltF, LeqT, LeqF, ↓bndS, ↓bnvS, ↓lt_s1, bndS, bnvS, eq_self, ↓reduceIte, m1, h1, m2, h2, gk, ml, m3]
          rw [if_neg ng]
          rfl
        | some v =>
          rw [hp] at ml lg
          have ng : nI 0 ≤ lI (some v) := lg.mpr (fun z => by cases z)
          simp (disch := omega) only [li_0, li_1, li_2, li_3, li_4, li_5, li_6, li_7, li_8, li_9, li_10, li_12, li_13, li_14, li_15, li_16, li_20, li_24, li_25, li_31, li_32, li_40, li_48, li_54, li_56, li_64, li_72, li_97, li_99, li_100, li_112, li_122, li_144, li_145, li_155, li_157, li_200, li_216, li_255, li_256, li_432, li_437, li_438, li_462, li_463, li_713, li_900, li_940, lL_0, lL_1, lL_255, lL_1099511627776, neg_1, ltT, ltF, leT, leF, eqT, eqF, ltMT, ltMF, leMT, leMF, eqMF, eqMF', addM, inbT, clp, nI_add, subN, pk_mul, nzT, remN, shl1, bitN, bit0, bit1, lcE, lcLE, lcLT, LleT, LleF, LltT, LltF, LeqT, LeqF, ↓bndS, ↓bnvS, ↓lt_s1, bndS, bnvS, eq_self, ↓reduceIte, m1, h1, m2, h2, gk, ml]
          rw [if_pos ng]
          rfl
      · have ev : gv σ (l i) g o w k = 0 := if_neg (fun z => h2 ((fol_n (σ := σ) (k := k) ho).symm.trans z.2))
        rw [ev, Nat.max_zero]
        simp (disch := omega) only [li_0, li_1, li_2, li_3, li_4, li_5, li_6, li_7, li_8, li_9, li_10, li_12, li_13, li_14, li_15, li_16, li_20, li_24, li_25, li_31, li_32, li_40, li_48, li_54, li_56, li_64, li_72, li_97, li_99, li_100, li_112, li_122, li_144, li_145, li_155, li_157, li_200, li_216, li_255, li_256, li_432, li_437, li_438, li_462, li_463, li_713, li_900, li_940, lL_0, lL_1, lL_255, lL_1099511627776, neg_1, ltT, ltF, leT, leF, eqT, eqF, ltMT, ltMF, leMT, leMF, eqMF, eqMF', addM, inbT, clp, nI_add, subN, pk_mul, nzT, remN, shl1, bitN, bit0, bit1, lcE, lcLE, lcLT, LleT, LleF, LltT, LltF, LeqT, LeqF, ↓bndS, ↓bnvS, ↓lt_s1, bndS, bnvS, eq_self, ↓reduceIte, m1, h1, m2, show σ (15 + 5 * o + k) = 0 by omega]
    · have ev : gv σ (l i) g o w k = 0 := if_neg (fun z => h1 z.1)
      rw [ev, Nat.max_zero]
      simp (disch := omega) only [li_0, li_1, li_2, li_3, li_4, li_5, li_6, li_7, li_8, li_9, li_10, li_12, li_13, li_14, li_15, li_16, li_20, li_24, li_25, li_31, li_32, li_40, li_48, li_54, li_56, li_64, li_72, li_97, li_99, li_100, li_112, li_122, li_144, li_145, li_155, li_157, li_200, li_216, li_255, li_256, li_432, li_437, li_438, li_462, li_463, li_713, li_900, li_940, lL_0, lL_1, lL_255, lL_1099511627776, neg_1, ltT, ltF, leT, leF, eqT, eqF, ltMT, ltMF, leMT, leMF, eqMF, eqMF', addM, inbT, clp, nI_add, subN, pk_mul, nzT, remN, shl1, bitN, bit0, bit1, lcE, lcLE, lcLT, LleT, LleF, LltT, LltF, LeqT, LeqF, ↓bndS, ↓bnvS, ↓lt_s1, bndS, bnvS, eq_self, ↓reduceIte, m1, show σ (72 + 5 * w + k) = 0 by omega]
theorem m_bestFrom {l : Nat → Option Nat} {n i o : Nat} {g : Nat → Nat} (B : TM σ l n h) (hL : LtOk l) (H : TgOk σ nm) (hi : i < n) (hn : n ≤ 12) (ho : o < 5) (hg : ∀ k, k < 5 → h.2.1 182 (5 * (i + 1) + k) = lN (g k) ∧ ∀ w, w < σ 2 → wgt σ (l i) w * g k < 4611686018427387904) : f_X13_bestFrom (nI i) (nI o) h = some (lN (mx (gx σ (l i) g o) (σ 2)), h) := by
  have h8 := H.1.2.2.1
  have g2 : h.1 157 2 = nI (σ 2) := B.1 2 (by omega)
  have gxl : ∀ w, w < σ 2 → gx σ (l i) g o w ≤ 4611686018427387903 := fun w hw => by
    unfold gx
    by_cases h1 : may (l i) w = true
    · rw [if_pos h1]
      refine (mx_le _).mpr (fun k hk => ?_)
      unfold gv
      by_cases h2 : σ (72 + 5 * w + k) = 1 ∧ fol σ o k = 1
      · rw [if_pos h2]; have := (hg k hk).2 w hw; omega
      · rw [if_neg h2]; omega
    · rw [if_neg h1]; omega
  unfold f_X13_bestFrom
  refine sq3 (σ 2) (fun w => lN (mx (gx σ (l i) g o) w)) (fun w => nI w) (fun _ => h) (fun self => ?_) (fun self w hw => ?_) (by omega) rfl rfl rfl
  · unfold F_X13_bestFrom_5
    simp (disch := omega) only [li_0, li_1, li_2, li_3, li_4, li_5, li_6, li_7, li_8, li_9, li_10, li_12, li_13, li_14, li_15, li_16, li_20, li_24, li_25, li_31, li_32, li_40, li_48, li_54, li_56, li_64, li_72, li_97, li_99, li_100, li_112, li_122, li_144, li_145, li_155, li_157, li_200, li_216, li_255, li_256, li_432, li_437, li_438, li_462, li_463, li_713, li_900, li_940, lL_0, lL_1, lL_255, lL_1099511627776, neg_1, ltT, ltF, leT, leF, eqT, eqF, ltMT, ltMF, leMT, leMF, eqMF, eqMF', addM, inbT, clp, nI_add, subN, pk_mul, nzT, remN, shl1, bitN, bit0, bit1, lcE, lcLE, lcLT, LleT, LleF, LltT, LltF, LeqT, LeqF, ↓bndS, ↓bnvS, ↓lt_s1, bndS, bnvS, eq_self, ↓reduceIte, g2]
  · have mb := m_mayBe (w := w) B hL hi hn (by omega)
    have em : mx (gx σ (l i) g o) (w + 1) = max (mx (gx σ (l i) g o) w) (gx σ (l i) g o w) := rfl
    have A := m_best32 (c := mx (gx σ (l i) g o) w) (g := g) B hL H hi hn ho hw (fun k hk => ⟨(hg k hk).1, (hg k hk).2 w hw⟩) (Nat.lt_of_le_of_lt ((mx_le w).mpr (fun j hj => gxl j (by omega))) (by decide)) (fun v17 h16 => self v17 (nI (w + 1)) h16)
    unfold F_X13_bestFrom_5
    rw [em]
    cases hm : may (l i) w
    · rw [show gx σ (l i) g o w = 0 from if_neg (by rw [hm]; decide), Nat.max_zero]
      simp (disch := omega) only [li_0, li_1, li_2, li_3, li_4, li_5, li_6, li_7, li_8, li_9, li_10, li_12, li_13, li_14, li_15, li_16, li_20, li_24, li_25, li_31, li_32, li_40, li_48, li_54, li_56, li_64, li_72, li_97, li_99, li_100, li_112, li_122, li_144, li_145, li_155, li_157, li_200, li_216, li_255, li_256, li_432, li_437, li_438, li_462, li_463, li_713, li_900, li_940, lL_0, lL_1, lL_255, lL_1099511627776, neg_1, ltT, ltF, leT, leF, eqT, eqF, ltMT, ltMF, leMT, leMF, eqMF, eqMF', addM, inbT, clp, nI_add, subN, pk_mul, nzT, remN, shl1, bitN, bit0, bit1, lcE, lcLE, lcLT, LleT, LleF, LltT, LltF, LeqT, LeqF, ↓bndS, ↓bnvS, ↓lt_s1, bndS, bnvS, eq_self, ↓reduceIte, g2, mb, hm]
    · rw [show gx σ (l i) g o w = mx (gv σ (l i) g o w) 5 from if_pos hm]
      simp (disch := omega) only [li_0, li_1, li_2, li_3, li_4, li_5, li_6, li_7, li_8, li_9, li_10, li_12, li_13, li_14, li_15, li_16, li_20, li_24, li_25, li_31, li_32, li_40, li_48, li_54, li_56, li_64, li_72, li_97, li_99, li_100, li_112, li_122, li_144, li_145, li_155, li_157, li_200, li_216, li_255, li_256, li_432, li_437, li_438, li_462, li_463, li_713, li_900, li_940, lL_0, lL_1, lL_255, lL_1099511627776, neg_1, ltT, ltF, leT, leF, eqT, eqF, ltMT, ltMF, leMT, leMF, eqMF, eqMF', addM, inbT, clp, nI_add, subN, pk_mul, nzT, remN, shl1, bitN, bit0, bit1, lcE, lcLE, lcLT, LleT, LleF, LltT, LltF, LeqT, LeqF, ↓bndS, ↓bnvS, ↓lt_s1, bndS, bnvS, eq_self, ↓reduceIte, g2, mb, hm, Bool.true_eq_false]
      exact A
/-- the reference's table: from place 1 on -/
theorem m_best {l : Nat → Option Nat} {n : Nat} (B : TM σ l n h) (hL : LtOk l) (H : TgOk σ nm) (h0 : 1 ≤ n) (hn : n ≤ 12) (hp : pb l n n ≤ 10) (kk : Hp → Option Hp) : ∃ h', itr2 (F_X13_likely_2 (nI n) (fun h5 => itr2 (F_X13_likely_37 (nI n) kk) N0 (nI n - nI 1) h5)) N0 (nI 0) h = kk h' ∧ Same [182] h h' ∧ h'.1 = h.1 ∧ ∀ j, 1 ≤ j → j ≤ n → ∀ o, o < 5 → h'.2.1 182 (5 * j + o) = lN (gb σ l n (n - j) o) := by
  have pm : ∀ d, d ≤ n → pb l n d ≤ 10 := fun d hd => by
    have := pb_mono l n (d := d) (n - d)
    rw [show d + (n - d) = n by omega] at this
    omega
  obtain ⟨h1, e1, s1, s2, s3⟩ := loop2n (F := F_X13_likely_2 (nI n) (fun h5 => itr2 (F_X13_likely_37 (nI n) kk) N0 (nI n - nI 1) h5)) (k := fun h5 => itr2 (F_X13_likely_37 (nI n) kk) N0 (nI n - nI 1) h5) 5 (fun k g => Same [182] h g ∧ g.1 = h.1 ∧ ∀ o, o < k → g.2.1 182 (5 * n + o) = lN (σ (10 + o))) (fun self g _ => by
      unfold F_X13_likely_2
      rw [if_pos (show (5 : Int32) ≤ nI 5 by decide)]) (fun self k g hk ⟨q1, q2, q3⟩ => by
      have m1 : g.1 157 (10 + k) = nI (σ (10 + k)) := by rw [q2]; exact B.1 (10 + k) (by omega)
      have f1 := H.2.1 (10 + k) (by omega) (by omega)
      refine ⟨sL g 182 (5 * n + k) (lN (σ (10 + k))), ?_, q1.tr (Same.ofL (by decide)), q2, fun o ho => ?_⟩
      · unfold F_X13_likely_2
        simp (disch := omega) only [li_0, li_1, li_2, li_3, li_4, li_5, li_6, li_7, li_8, li_9, li_10, li_12, li_13, li_14, li_15, li_16, li_20, li_24, li_25, li_31, li_32, li_40, li_48, li_54, li_56, li_64, li_72, li_97, li_99, li_100, li_112, li_122, li_144, li_145, li_155, li_157, li_200, li_216, li_255, li_256, li_432, li_437, li_438, li_462, li_463, li_713, li_900, li_940, lL_0, lL_1, lL_255, lL_1099511627776, neg_1, ltT, ltF, leT, leF, eqT, eqF, ltMT, ltMF, leMT, leMF, eqMF, eqMF', addM, inbT, clp, nI_add, subN, pk_mul, nzT, remN, shl1, bitN, bit0, bit1, lcE, lcLE, lcLT, LleT, LleF, LltT, LltF, LeqT, LeqF, ↓bndS, ↓bnvS, ↓lt_s1, bndS, bnvS, eq_self, ↓reduceIte, m1, ItoL, show ((65 : Int32)) = nI 65 from rfl]
      · by_cases h1 : o = k
        · subst h1; exact sL_s
        · rw [sL_nk1 (by omega)]; exact q3 o (by omega)) h ⟨Same.rf, rfl, fun o ho => by omega⟩ (by omega)
  have B1 := B.same s1 (by decide)
  obtain ⟨h2, e2, t1, t2, t3⟩ := loopQ2 (F := F_X13_likely_37 (nI n) kk) (k := kk) (n - 1) (fun j => nI (n - 1 - j)) (fun j g => Same [182] h1 g ∧ g.1 = h1.1 ∧ ∀ i, n - 1 - j < i → i ≤ n → ∀ o, o < 5 → g.2.1 182 (5 * i + o) = lN (gb σ l n (n - i) o)) (fun self g _ => by
      unfold F_X13_likely_37
      rw [Nat.sub_self, if_pos (by decide)]) (fun self j g hj ⟨q1, q2, q3⟩ => by
      obtain ⟨i, hi⟩ : ∃ i, i = n - 1 - j := ⟨_, rfl⟩
      have ed : n - 1 - (n - (i + 1)) = i := by omega
      obtain ⟨g', e, r1, r2, r3, r4⟩ := loop2n (F := F_X13_likely_43 (nI n) (nI i) (fun h12 => self (nI i + (-1)) h12)) (k := fun h12 => self (nI i + (-1)) h12) 5 (fun o g' => Same [182] g g' ∧ g'.1 = g.1 ∧ (∀ x, x < 5 * i ∨ 5 * i + 5 ≤ x → g'.2.1 182 x = g.2.1 182 x) ∧ ∀ k, k < o → g'.2.1 182 (5 * i + k) = lN (gb σ l n (n - i) k)) (fun self g' _ => by
          unfold F_X13_likely_43
          rw [if_pos (show (5 : Int32) ≤ nI 5 by decide)]) (fun self o g' ho ⟨p1, p2, p3, p4⟩ => by
          have Bg := B1.same (q1.tr p1) (by decide)
          have bf := m_bestFrom (i := i) (o := o) (g := gb σ l n (n - (i + 1))) Bg hL H (by omega) hn ho (fun k hk => ⟨by rw [p3 _ (by omega)]; exact q3 (i + 1) (by omega) (by omega) k hk, fun w hw => by
            have := wg_le H l n (d := n - (i + 1)) (k := k) hw (by omega)
            rw [ed] at this
            exact Nat.lt_of_le_of_lt this (p60 (pm _ (by omega)))⟩)
          have eg : gb σ l n (n - i) o = mx (gx σ (l i) (gb σ l n (n - (i + 1))) o) (σ 2) := by
            rw [show n - i = (n - (i + 1)) + 1 by omega]
            show mx (gx σ (l (n - 1 - (n - (i + 1)))) (gb σ l n (n - (i + 1))) o) (σ 2) = _
            rw [ed]
          refine ⟨sL g' 182 (5 * i + o) (lN (gb σ l n (n - i) o)), ?_, p1.tr (Same.ofL (by decide)), p2, fun x hx => by rw [sL_nk1 (by omega)]; exact p3 x hx, fun k hk => ?_⟩
          · unfold F_X13_likely_43
            rw [eg]
            simp (disch := omega) only [li_0, li_1, li_2, li_3, li_4, li_5, li_6, li_7, li_8, li_9, li_10, li_12, li_13, li_14, li_15, li_16, li_20, li_24, li_25, li_31, li_32, li_40, li_48, li_54, li_56, li_64, li_72, li_97, li_99, li_100, li_112, li_122, li_144, li_145, li_155, li_157, li_200, li_216, li_255, li_256, li_432, li_437, li_438, li_462, li_463, li_713, li_900, li_940, lL_0, lL_1, lL_255, lL_1099511627776, neg_1, ltT, ltF, leT, leF, eqT, eqF, ltMT, ltMF, leMT, leMF, eqMF, eqMF', addM, inbT, clp, nI_add, subN, pk_mul, nzT, remN, shl1, bitN, bit0, bit1, lcE, lcLE, lcLT, LleT, LleF, LltT, LltF, LeqT, LeqF, ↓bndS, ↓bnvS, ↓lt_s1, bndS, bnvS, eq_self, ↓reduceIte, bf, show ((65 : Int32)) = nI 65 from rfl]
          · by_cases h1 : k = o
            · subst h1; exact sL_s
            · rw [sL_nk1 (by omega)]; exact p4 k (by omega)) g ⟨Same.rf, rfl, fun _ _ => rfl, fun k hk => by omega⟩ (by omega)
      refine ⟨g', ?_, q1.tr r1, r2.trans q2, fun x h1 h2 o ho => ?_⟩
      · show F_X13_likely_37 (nI n) kk self (nI (n - 1 - j)) g = _
        rw [← hi]
        unfold F_X13_likely_37
        rw [li_0, if_neg (nI_ge (by omega) (by omega)), e]
        show self (nI i + mI 1) g' = self (nI (n - 1 - (j + 1))) g'
        rw [addM (by omega), show i - 1 = n - 1 - (j + 1) by omega]
      · by_cases h3 : x = i
        · subst h3; exact r4 o ho
        · rw [r3 _ (by omega)]; exact q3 x (by omega) h2 o ho) h1 ⟨Same.rf, rfl, fun i h1 h2 o ho => by
        have : i = n := by omega
        subst this
        rw [s3 o ho, Nat.sub_self]
        show _ = lN (if o = 5 then 0 else σ (10 + o))
        rw [if_neg (by omega)]⟩ (by omega)
  refine ⟨h2, ?_, s1.tr t1, t2.trans s2, fun j h1 h2 o ho => t3 j (by omega) h2 o ho⟩
  rw [e1, subN h0]
  exact e2
end TORN9
