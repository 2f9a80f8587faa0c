section TORN6
variable {σ : Nat → Nat} {nm : Nat → List Nat} {h h' : Hp}
theorem LeqN {a b : Nat} (ha : a < 4611686018427387904) (hb : b < 4611686018427387904) : (lN a = lN b) = (a = b) := propext (pk_lEQ (by omega) (by omega))
theorem c_first41 {l : Nat → Option Nat} {n i w s Y P : Nat} {g : Nat → Nat} {x2 : Int32} (B : TB σ nm l n h) (hL : LtOk l) (H : TgOk σ nm) (hi : i < n) (hn : n ≤ 12) (hw : w < σ 2) (hY : Y < 64) (hg : ∀ k, k < 5 → h.2.1 139 ((i + 1) * 6 + k) = lN (g k)) (hb : ∀ k, k < 5 → Y.testBit k = true → s * wgt σ (l i) w * g k < 4611686018427387904) (hP : P < 4611686018427387904) (h5 : h.2.1 133 5 = lN P) (k0 k1 : Hp → Option (Int32 × Hp)) : itr2 (F_X8_firstAt_41 (nI i) x2 (lN s) (nI w) (nI Y) k0 k1) N0 (nI 0) h = if allP (fun k => !(Y.testBit k && decide (s * wgt σ (l i) w * g k = P))) 0 (σ 0) = true then k1 h else k0 h := by
  have s5 := H.1.1
  have g7 := B.2.1
  have gz := B.1.1.1
  refine allLoop (fun k => !(Y.testBit k && decide (s * wgt σ (l i) w * g k = P))) 0 (σ 0) (fun self => ?_) (fun self k hk => ?_) (by omega)
  · rw [Nat.zero_add]
    unfold F_X8_firstAt_41
    simp (disch := omega) only [li_0, li_1, li_2, li_3, li_4, li_5, li_6, li_7, li_8, li_9, li_10, li_12, li_13, li_14, li_15, li_16, li_20, li_24, li_25, li_31, li_32, li_40, li_48, li_54, li_56, li_64, li_72, li_97, li_99, li_100, li_112, li_122, li_144, li_145, li_155, li_157, li_200, li_216, li_255, li_256, li_432, li_437, li_438, li_462, li_463, li_713, li_900, li_940, lL_0, lL_1, lL_255, lL_1099511627776, neg_1, ltT, ltF, leT, leF, eqT, eqF, ltMT, ltMF, leMT, leMF, eqMF, eqMF', addM, inbT, clp, nI_add, subN, pk_mul, nzT, remN, shl1, bitN, bit0, bit1, lcE, lcLE, lcLT, LleT, LleF, LltT, LltF, LeqT, LeqF, ↓bndS, ↓bnvS, ↓lt_s1, bndS, bnvS, eq_self, ↓reduceIte, g7, isO87, gz]
  · rw [Nat.zero_add]
    have gk := hg k (by omega)
    have wa := c_weightAt B hL H hi hn hw
    unfold F_X8_firstAt_41
    cases c1 : Y.testBit k
    · simp (disch := omega) only [li_0, li_1, li_2, li_3, li_4, li_5, li_6, li_7, li_8, li_9, li_10, li_12, li_13, li_14, li_15, li_16, li_20, li_24, li_25, li_31, li_32, li_40, li_48, li_54, li_56, li_64, li_72, li_97, li_99, li_100, li_112, li_122, li_144, li_145, li_155, li_157, li_200, li_216, li_255, li_256, li_432, li_437, li_438, li_462, li_463, li_713, li_900, li_940, lL_0, lL_1, lL_255, lL_1099511627776, neg_1, ltT, ltF, leT, leF, eqT, eqF, ltMT, ltMF, leMT, leMF, eqMF, eqMF', addM, inbT, clp, nI_add, subN, pk_mul, nzT, remN, shl1, bitN, bit0, bit1, lcE, lcLE, lcLT, LleT, LleF, LltT, LltF, LeqT, LeqF, ↓bndS, ↓bnvS, ↓lt_s1, bndS, bnvS, eq_self, ↓reduceIte, g7, isO87, gz, c1, Bool.false_and, Bool.not_false]
    · have e := LeqN (hb k (by omega) c1) hP
      by_cases c2 : s * wgt σ (l i) w * g k = P
      · simp (disch := omega) only [li_0, li_1, li_2, li_3, li_4, li_5, li_6, li_7, li_8, li_9, li_10, li_12, li_13, li_14, li_15, li_16, li_20, li_24, li_25, li_31, li_32, li_40, li_48, li_54, li_56, li_64, li_72, li_97, li_99, li_100, li_112, li_122, li_144, li_145, li_155, li_157, li_200, li_216, li_255, li_256, li_432, li_437, li_438, li_462, li_463, li_713, li_900, li_940, lL_0, lL_1, lL_255, lL_1099511627776, neg_1, ltT, ltF, leT, leF, eqT, eqF, ltMT, ltMF, leMT, leMF, eqMF, eqMF', addM, inbT, clp, nI_add, subN, pk_mul, nzT, remN, shl1, bitN, bit0, bit1, lcE, lcLE, lcLT, LleT, LleF, LltT, LltF, LeqT, LeqF, ↓bndS, ↓bnvS, ↓lt_s1, bndS, bnvS, eq_self, ↓reduceIte, g7, isO87, gz, gk, c1, Bool.true_and, Bool.true_eq_false, wa, lN_mul, h5, e, c2, decide_true, Bool.not_true, Bool.false_eq_true]
      · simp (disch := omega) only [li_0, li_1, li_2, li_3, li_4, li_5, li_6, li_7, li_8, li_9, li_10, li_12, li_13, li_14, li_15, li_16, li_20, li_24, li_25, li_31, li_32, li_40, li_48, li_54, li_56, li_64, li_72, li_97, li_99, li_100, li_112, li_122, li_144, li_145, li_155, li_157, li_200, li_216, li_255, li_256, li_432, li_437, li_438, li_462, li_463, li_713, li_900, li_940, lL_0, lL_1, lL_255, lL_1099511627776, neg_1, ltT, ltF, leT, leF, eqT, eqF, ltMT, ltMF, leMT, leMF, eqMF, eqMF', addM, inbT, clp, nI_add, subN, pk_mul, nzT, remN, shl1, bitN, bit0, bit1, lcE, lcLE, lcLT, LleT, LleF, LltT, LltF, LeqT, LeqF, ↓bndS, ↓bnvS, ↓lt_s1, bndS, bnvS, eq_self, ↓reduceIte, g7, isO87, gz, gk, c1, Bool.true_and, Bool.true_eq_false, wa, lN_mul, h5, e, c2, decide_false, Bool.not_false]
theorem c_firstAt {l : Nat → Option Nat} {n i s X P : Nat} {g : Nat → Nat} (B : TB σ nm l n h) (hL : LtOk l) (H : TgOk σ nm) (hi : i < n) (hn : n ≤ 12) (hX : X < 64) (hg : ∀ k, k < 5 → h.2.1 139 ((i + 1) * 6 + k) = lN (g k)) (hP0 : 0 < P) (hs : s * mx (vw σ X (l i) g) (σ 2) = P) (hP : P < 4611686018427387904) (h5 : h.2.1 133 5 = lN P) : f_X8_firstAt (nI i) (nI X) (lN s) h = some (nI (wrd σ X (l i) g), h) := by
  have h8 := H.1.2.2.1
  have g7 := B.2.1
  have g2 := B.1.1.2.2.1
  have M0 : 0 < mx (vw σ X (l i) g) (σ 2) := by
    by_cases h1 : mx (vw σ X (l i) g) (σ 2) = 0
    · rw [h1, Nat.mul_zero] at hs; omega
    · omega
  have ew : wrd σ X (l i) g = fst (hit σ X s P (l i) g) (σ 2) := (fst_cong (σ 2) (fun w hw => hit_vw hP0 hs hw)).symm
  have wl := (wrd_ok M0).1
  rw [ew] at wl
  obtain ⟨a, b, c⟩ := fst_spec (hit σ X s P (l i) g) (σ 2)
  have hstep : ∀ (w : Nat) (self : Int32 → Hp → Option (Int32 × Hp)), w < σ 2 → F_X8_firstAt_3 (nI i) (nI X) (lN s) (fun v23 h22 => some (v23, h22)) (fun h24 => some ((-1), h24)) self (nI w) h = if hit σ X s P (l i) g w = true then some (nI w, h) else self (nI (w + 1)) h := fun w self hw => by
    have ms := c_mayStandAt (w := w) B hL hi hn (by omega)
    have so := c_sortsBehind (X := X) (w := w) B.1 g7 H hX (by omega)
    unfold F_X8_firstAt_3
    cases hm : may (l i) w
    · have e := c_first41 (x2 := nI X) (Y := 0) (s := s) (P := P) (g := g) B hL H hi hn hw (by decide) hg (fun k _ z => by rw [Nat.zero_testBit] at z; cases z) hP h5 (fun h16 => some (nI w, h16)) (fun h17 => self (nI w + nI 1) h17)
      rw [if_pos (allP_t.mpr (fun k _ => by rw [Nat.zero_testBit]; rfl)), nI_add] at e
      simp (disch := omega) only [li_0, li_1, li_2, li_3, li_4, li_5, li_6, li_7, li_8, li_9, li_10, li_12, li_13, li_14, li_15, li_16, li_20, li_24, li_25, li_31, li_32, li_40, li_48, li_54, li_56, li_64, li_72, li_97, li_99, li_100, li_112, li_122, li_144, li_145, li_155, li_157, li_200, li_216, li_255, li_256, li_432, li_437, li_438, li_462, li_463, li_713, li_900, li_940, lL_0, lL_1, lL_255, lL_1099511627776, neg_1, ltT, ltF, leT, leF, eqT, eqF, ltMT, ltMF, leMT, leMF, eqMF, eqMF', addM, inbT, clp, nI_add, subN, pk_mul, nzT, remN, shl1, bitN, bit0, bit1, lcE, lcLE, lcLT, LleT, LleF, LltT, LltF, LeqT, LeqF, ↓bndS, ↓bnvS, ↓lt_s1, bndS, bnvS, eq_self, ↓reduceIte, g7, isO87, g2, ms, hm, hit, Bool.false_and, Bool.false_eq_true]
      exact e
    · have bl : bts (bh σ X w) 5 < 64 := Nat.lt_of_lt_of_le (bts_lt _) (by decide)
      have e := c_first41 (x2 := nI X) (Y := bts (bh σ X w) 5) (s := s) (P := P) (g := g) B hL H hi hn hw bl hg (fun k hk z => by
        rw [bts_bit, decide_eq_true hk, Bool.true_and] at z
        have a1 := mx_ge (f := bm σ X w g) hk
        rw [show bm σ X w g k = g k from if_pos z] at a1
        have a2 := mx_ge (f := vw σ X (l i) g) hw
        rw [show vw σ X (l i) g w = wgt σ (l i) w * mx (bm σ X w g) 5 from if_pos hm] at a2
        have a3 : s * (wgt σ (l i) w * g k) ≤ s * mx (vw σ X (l i) g) (σ 2) := Nat.mul_le_mul_left _ (Nat.le_trans (Nat.mul_le_mul_left _ a1) a2)
        rw [Nat.mul_assoc]
        omega) hP h5 (fun h16 => some (nI w, h16)) (fun h17 => self (nI w + nI 1) h17)
      have eh : (allP (fun k => !((bts (bh σ X w) 5).testBit k && decide (s * wgt σ (l i) w * g k = P))) 0 (σ 0)) = !(hit σ X s P (l i) g w) := by
        have s5 := H.1.1
        rw [Bool.eq_iff_iff, Bool.not_eq_true', allP_t]
        unfold hit
        rw [hm, Bool.true_and]
        constructor
        · intro z
          refine Bool.eq_false_iff.mpr (fun q => ?_)
          obtain ⟨k, q1, q2⟩ := anyP_t.mp q
          by_cases q3 : k < σ 0
          · have := z k q3
            rw [Nat.zero_add, bts_bit, decide_eq_true q1, Bool.true_and, q2] at this
            cases this
          · rw [bh_s0 H (by omega) (by omega) q1, Bool.false_and] at q2
            cases q2
        · intro z k hk
          rw [Nat.zero_add, bts_bit, decide_eq_true (show k < 5 by omega), Bool.true_and]
          cases q : (bh σ X w k && decide (s * wgt σ (l i) w * g k = P))
          · rfl
          · rw [anyP_t.mpr ⟨k, by omega, q⟩] at z
            cases z
      rw [eh, nI_add] at e
      simp (disch := omega) only [li_0, li_1, li_2, li_3, li_4, li_5, li_6, li_7, li_8, li_9, li_10, li_12, li_13, li_14, li_15, li_16, li_20, li_24, li_25, li_31, li_32, li_40, li_48, li_54, li_56, li_64, li_72, li_97, li_99, li_100, li_112, li_122, li_144, li_145, li_155, li_157, li_200, li_216, li_255, li_256, li_432, li_437, li_438, li_462, li_463, li_713, li_900, li_940, lL_0, lL_1, lL_255, lL_1099511627776, neg_1, ltT, ltF, leT, leF, eqT, eqF, ltMT, ltMF, leMT, leMF, eqMF, eqMF', addM, inbT, clp, nI_add, subN, pk_mul, nzT, remN, shl1, bitN, bit0, bit1, lcE, lcLE, lcLT, LleT, LleF, LltT, LltF, LeqT, LeqF, ↓bndS, ↓bnvS, ↓lt_s1, bndS, bnvS, eq_self, ↓reduceIte, g7, isO87, g2, ms, hm, Bool.true_eq_false, so]
      rw [e]
      cases hit σ X s P (l i) g w <;> rfl
  unfold f_X8_firstAt
  rw [ew]
  refine sq2 (fst (hit σ X s P (l i) g) (σ 2)) (fun i => nI i) (fun _ => h) (fun self => ?_) (fun self w hw => ?_) (by omega) rfl rfl
  · rw [hstep _ self wl, if_pos (c wl)]
  · rw [hstep w self (by omega), b w hw, if_neg (by decide)]
theorem aln135 : aln 135 = 12 := by decide
theorem c_chooseRow {l : Nat → Option Nat} {n : Nat} (B : TB σ nm l n h) (hL : LtOk l) (H : TgOk σ nm) (hn : n ≤ 12) (hg : ∀ j, j ≤ n → ∀ o, o < 6 → h.2.1 139 (j * 6 + o) = lN (gb σ l n (n - j) o)) (hP0 : 0 < gb σ l n n 5) (hP : gb σ l n n 5 < 4611686018427387904) (h5 : h.2.1 133 5 = lN (gb σ l n n 5)) : ∃ h', f_X8_chooseRow h = some h' ∧ Same [134, 135] h h' ∧ h'.2 = h.2 ∧ h'.1 134 1 = nI n ∧ ∀ j, j < n → h'.1 135 j = nI (wr σ l n j) := by
  have h8 := H.1.2.2.1
  obtain ⟨a, b, h', e, s1, s2, s3, s4, s5, s6⟩ := loop4n (F := F_X8_chooseRow_16 (fun h12 => some h12) (fun h13 => some h13)) (k := fun _ _ h13 => some h13) n (fun i a b g => a = lN (ch σ l n i).2 ∧ b = nI (ch σ l n i).1 ∧ Same [134, 135] h g ∧ g.2 = h.2 ∧ g.1 134 1 = nI i ∧ ∀ j, j < i → g.1 135 j = nI (wr σ l n j)) (fun self a b g ⟨q1, q2, q3, q4, q5, q6⟩ => by
      have g9 : g.1 133 9 = nI n := by rw [(q3 133 (by decide)).1]; exact B.2.2.1
      unfold F_X8_chooseRow_16
      rw [g9, if_pos (nI_le (Nat.le_refl _) (by omega))]) (fun self i a b g hi ⟨q1, q2, q3, q4, q5, q6⟩ => by
      have mkB : ∀ g', Same [134, 135] h g' → TB σ nm l n g' := fun g' q => ⟨B.1.kept (fun a h1 h2 => by
        have := q a (by simp only [List.mem_cons, List.not_mem_nil, or_false]; omega)
        exact ⟨this.1, this.2.1⟩), by rw [(q 133 (by decide)).2.2]; exact B.2.1, by rw [(q 133 (by decide)).1]; exact B.2.2.1, by rw [(q 136 (by decide)).1]; exact B.2.2.2⟩
      have Bg := mkB g q3
      have g9 := Bg.2.2.1
      have cs := ch_step hi hP0 (ch_inv hP0 i (by omega))
      have cx := ch_X (σ := σ) l n i
      have fa := c_firstAt (i := i) (s := (ch σ l n i).2) (X := (ch σ l n i).1) (P := gb σ l n n 5) (g := gb σ l n (n - 1 - i)) Bg hL H hi hn cx (fun k hk => by
        rw [q4, hg (i + 1) (by omega) k (by omega), show n - (i + 1) = n - 1 - i by omega]) hP0 cs.1 hP (by rw [q4]; exact h5)
      have rp := row_put (r := 134) (n := i) (h := g) (v := nI (wr σ l n i)) q5 (by rw [aln135]; omega) (by rw [aln135]; decide)
      have S2 : Same [134, 135] h (sI (sI g 135 i (nI (wr σ l n i))) 134 1 (nI (i + 1))) := (q3.tr (Same.ofI (by decide))).tr (Same.ofI (by decide))
      have B2 := mkB _ S2
      have wa := c_weightAt (w := wr σ l n i) B2 hL H hi hn cs.2.1
      have so := c_sortsBehind (X := (ch σ l n i).1) (w := wr σ l n i) B2.1 B2.2.1 H cx (by have := cs.2.1; omega)
      refine ⟨lN (ch σ l n (i + 1)).2, nI (ch σ l n (i + 1)).1, sI (sI g 135 i (nI (wr σ l n i))) 134 1 (nI (i + 1)), ?_, rfl, rfl, S2, q4, sI_s, fun j hj => ?_⟩
      · unfold F_X8_chooseRow_16
        rw [g9, if_neg (nI_ge hi (by omega)), q1, q2, fa, bndS, li_0, if_pos (nI_le (Nat.zero_le _) (by have := cs.2.1; unfold wr at this; omega))]
        show bnv (f_X7_put 134 (nI (wr σ l n i)) g) _ = _
        rw [rp, bnvS]
        show bnd (f_X8_weightAt (nI i) (nI (wr σ l n i)) _) _ = _
        rw [wa, bndS, lt_s1]
        show bnd (f_X8_sortsBehind _ (nI (wr σ l n i)) _) _ = _
        rw [so, bndS, lN_mul, li_1, nI_add]
        rfl
      · rw [sI_ne1 (by decide)]
        by_cases h1 : j = i
        · subst h1; exact sI_s
        · rw [sI_nk1 h1]; exact q6 j (by omega)) (lN 1) (nI 32) (sI h 134 1 (nI 0)) ⟨rfl, rfl, Same.ofI (by decide), rfl, sI_s, fun j hj => by omega⟩ (by omega)
  refine ⟨h', ?_, s3, s4, s5, s6⟩
  unfold f_X8_chooseRow
  rw [lt_s1, li_0, lL_1, li_32, e]
/-! what is left, by place -/
def cu (e r b : Nat) : Nat → Nat
  | 0 => 0
  | i + 1 => cu e r b i + (if stk e r b (i + 1) = true then 0 else 1)
def lT (e r b : Nat) (tp : List Nat) (i : Nat) : Option Nat := if stk e r b (i + 1) = true then none else some (tp.getD (cu e r b i) 0)
def pbs (e r b n : Nat) : Nat → Nat
  | 0 => 0
  | d + 1 => pbs e r b n d + (if stk e r b (n - 1 - d + 1) = true then 1 else 0)
theorem pb_s (e r b n : Nat) (tp : List Nat) : ∀ d, pb (lT e r b tp) n d = pbs e r b n d
  | 0 => rfl
  | d + 1 => by
    show pb (lT e r b tp) n d + _ = pbs e r b n d + _
    rw [pb_s e r b n tp d]
    unfold lT
    by_cases h1 : stk e r b (n - 1 - d + 1) = true
    · rw [if_pos h1, if_pos rfl, if_pos h1]
    · rw [if_neg h1, if_neg h1, if_neg (fun z => by cases z)]
theorem pbs_10 : ∀ e, e < 6 → ∀ r, r < 6 → ∀ b, b < 6 → ∀ n, n < 13 → r < e → pbs e r b n n ≤ 10 := by decide +kernel
theorem cu_mono (e r b : Nat) {i : Nat} : ∀ j, cu e r b i ≤ cu e r b (i + j)
  | 0 => Nat.le_refl _
  | j + 1 => Nat.le_trans (cu_mono e r b j) (Nat.le_add_right _ _)
theorem cu_le (e r b : Nat) : ∀ i, cu e r b i ≤ i
  | 0 => Nat.le_refl _
  | i + 1 => by
    have := cu_le e r b i
    show cu e r b i + _ ≤ i + 1
    by_cases h1 : stk e r b (i + 1) = true
    · rw [if_pos h1]; omega
    · rw [if_neg h1]; omega
theorem c_leftOf {x n b e r : Nat} (he : h.1 x 0 = nI e) (hr : h.1 x 1 = nI r) (e0 : 0 < e) (e1 : e < 1000) (r1 : r < 1000) (b1 : b < 1000) (n1 : n < 500) : f_X1_leftOf x (nI n) (nI b) h = some (nI (cu e r b n), h) := by
  unfold f_X1_leftOf
  refine sq3 n (fun i => nI (cu e r b i)) (fun i => nI (1 + i)) (fun _ => h) (fun self => ?_) (fun self i hi => ?_) (by omega) rfl rfl rfl
  · unfold F_X1_leftOf_5
    rw [if_pos (nI_lt (by omega) (by omega))]
  · have st := c_strikes (p := 1 + i) he hr e0 e1 r1 b1 (by omega)
    have cl := cu_le e r b i
    have ec : cu e r b (i + 1) = cu e r b i + (if stk e r b (1 + i) = true then 0 else 1) := by rw [Nat.add_comm 1 i]; rfl
    unfold F_X1_leftOf_5
    rw [ec]
    cases hs : stk e r b (1 + i)
    · simp (disch := omega) only [li_0, li_1, li_2, li_3, li_4, li_5, li_6, li_7, li_8, li_9, li_10, li_12, li_13, li_14, li_15, li_16, li_20, li_24, li_25, li_31, li_32, li_40, li_48, li_54, li_56, li_64, li_72, li_97, li_99, li_100, li_112, li_122, li_144, li_145, li_155, li_157, li_200, li_216, li_255, li_256, li_432, li_437, li_438, li_462, li_463, li_713, li_900, li_940, lL_0, lL_1, lL_255, lL_1099511627776, neg_1, ltT, ltF, leT, leF, eqT, eqF, ltMT, ltMF, leMT, leMF, eqMF, eqMF', addM, inbT, clp, nI_add, subN, pk_mul, nzT, remN, shl1, bitN, bit0, bit1, lcE, lcLE, lcLT, LleT, LleF, LltT, LltF, LeqT, LeqF, ↓bndS, ↓bnvS, ↓lt_s1, bndS, bnvS, eq_self, ↓reduceIte, st, hs, Bool.false_eq_true]
      rfl
    · simp (disch := omega) only [li_0, li_1, li_2, li_3, li_4, li_5, li_6, li_7, li_8, li_9, li_10, li_12, li_13, li_14, li_15, li_16, li_20, li_24, li_25, li_31, li_32, li_40, li_48, li_54, li_56, li_64, li_72, li_97, li_99, li_100, li_112, li_122, li_144, li_145, li_155, li_157, li_200, li_216, li_255, li_256, li_432, li_437, li_438, li_462, li_463, li_713, li_900, li_940, lL_0, lL_1, lL_255, lL_1099511627776, neg_1, ltT, ltF, leT, leF, eqT, eqF, ltMT, ltMF, leMT, leMF, eqMF, eqMF', addM, inbT, clp, nI_add, subN, pk_mul, nzT, remN, shl1, bitN, bit0, bit1, lcE, lcLE, lcLT, LleT, LleF, LltT, LltF, LeqT, LeqF, ↓bndS, ↓bnvS, ↓lt_s1, bndS, bnvS, eq_self, ↓reduceIte, st, hs, Bool.true_eq_false]
      rfl
end TORN6
