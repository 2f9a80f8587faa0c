section TOKD
variable {tp : List Nat} {σ : Nat → Nat} {nm : Nat → List Nat} {h h' : Hp}
/-- the reference's tokens -/
def MTk (tp : List Nat) (L p : Nat) (h : Hp) : Prop := h.1 155 3 = nI tp.length ∧ h.1 155 4 = nI p ∧ h.1 155 5 = nI L ∧ lsB (h.1 156) tp
def tkR (tp : List Nat) (L s : Nat) : Nat := if s < min tp.length L then tkK tp s else if tp.length ≤ L then 0 else 4
theorem m_peek {q : Nat} (T : Tp tp) (h3 : h.1 155 3 = nI tp.length) (h4 : h.1 155 4 = nI q) (hl : lsB (h.1 156) tp) (hq : q ≤ 940) : f_X13_peek h = some (if q < tp.length then nI (tp.getD q 0) else -1, h) := by
  have t9 := T.1
  unfold f_X13_peek
  rw [h3, h4]
  by_cases h1 : q < tp.length
  · rw [if_neg (nI_ge h1 (by omega)), if_pos (inb_nI (by omega) (by decide)), clp (by omega), hl q h1, li_255, byteB (T.b q), if_pos h1]
  · rw [if_pos (nI_le (by omega) (by omega)), if_neg h1]
theorem m_isSmall {c : Nat} (hc : c < 256) : f_X13_isSmall (nI c) h = some (nI (isLt c).toNat, h) := by
  unfold f_X13_isSmall isLt
  rw [show (97 : Int32) = nI 97 from rfl, show (122 : Int32) = nI 122 from rfl]
  by_cases h3 : c < 97
  · rw [if_pos (nI_lt h3 (by omega)), decide_eq_false (show ¬ 97 ≤ c by omega)]; rfl
  · rw [if_neg (nI_nlt (by omega) (by omega)), decide_eq_true (show 97 ≤ c by omega), Bool.true_and]
    by_cases h4 : 122 < c
    · rw [if_pos (nI_lt h4 (by omega)), decide_eq_false (show ¬ c ≤ 122 by omega)]; rfl
    · rw [if_neg (nI_nlt (by omega) (by omega)), decide_eq_true (show c ≤ 122 by omega)]; rfl
theorem m_isDigit {c : Nat} (hc : c < 256) : f_X13_isDigit (nI c) h = some (nI (isDg c).toNat, h) := by
  unfold f_X13_isDigit isDg
  rw [show (48 : Int32) = nI 48 from rfl, show (57 : Int32) = nI 57 from rfl]
  by_cases h3 : c < 48
  · rw [if_pos (nI_lt h3 (by omega)), decide_eq_false (show ¬ 48 ≤ c by omega)]; rfl
  · rw [if_neg (nI_nlt (by omega) (by omega)), decide_eq_true (show 48 ≤ c by omega), Bool.true_and]
    by_cases h4 : 57 < c
    · rw [if_pos (nI_lt h4 (by omega)), decide_eq_false (show ¬ c ≤ 57 by omega)]; rfl
    · rw [if_neg (nI_nlt (by omega) (by omega)), decide_eq_true (show c ≤ 57 by omega)]; rfl
theorem m_next0 {p : Nat} (T : Tp tp) (h3 : h.1 155 3 = nI tp.length) (h4 : h.1 155 4 = nI p) (hl : lsB (h.1 156) tp) (hp : p ≤ tp.length) (kk : Hp → Option Hp) : ∃ h', itr1 (F_X13_next_0 kk) N0 h = kk h' ∧ Same [155] h h' ∧ h'.2 = h.2 ∧ (∀ j, j ≠ 4 → h'.1 155 j = h.1 155 j) ∧ h'.1 155 4 = nI (to1 isBl tp tp.length p) := by
  have t9 := T.1
  have bb := to1_b (tp := tp) (f := isBl) hp
  obtain ⟨h', e, s1, s2, s3, s4⟩ := loopQ1 (F := F_X13_next_0 kk) (k := kk) (to1 isBl tp tp.length p - p) (fun i g => Same [155] h g ∧ g.2 = h.2 ∧ (∀ j, j ≠ 4 → g.1 155 j = h.1 155 j) ∧ g.1 155 4 = nI (p + i)) (fun self g ⟨q1, q2, q3, q4⟩ => by
      rw [show p + (to1 isBl tp tp.length p - p) = to1 isBl tp tp.length p by omega] at q4
      have g3 : g.1 155 3 = nI tp.length := by rw [q3 3 (by decide)]; exact h3
      have pk := m_peek (h := g) (q := to1 isBl tp tp.length p) T g3 q4 (by rw [(q1 156 (by decide)).1]; exact hl) (by omega)
      unfold F_X13_next_0
      by_cases h1 : to1 isBl tp tp.length p < tp.length
      · rw [if_pos h1] at pk
        have nb := isBl_f (to1_at h1)
        have c2 := T.b (to1 isBl tp tp.length p)
        simp (disch := omega) only [li_0, li_1, li_2, li_3, li_4, li_5, li_6, li_7, li_8, li_9, li_10, li_12, li_13, li_14, li_15, li_16, li_20, li_24, li_25, li_31, li_32, li_40, li_48, li_54, li_56, li_64, li_72, li_97, li_99, li_100, li_112, li_122, li_144, li_145, li_155, li_157, li_200, li_216, li_255, li_256, li_432, li_437, li_438, li_462, li_463, li_713, li_900, li_940, lL_0, lL_1, lL_255, lL_1099511627776, neg_1, ltT, ltF, leT, leF, eqT, eqF, ltMT, ltMF, leMT, leMF, eqMF, eqMF', addM, inbT, clp, nI_add, subN, pk_mul, nzT, remN, shl1, bitN, bit0, bit1, lcE, lcLE, lcLT, LleT, LleF, LltT, LltF, LeqT, LeqF, ↓bndS, ↓bnvS, ↓lt_s1, bndS, bnvS, eq_self, ↓reduceIte, pk, nb.1, nb.2]
      · rw [if_neg h1] at pk
        rw [pk, bndS, if_neg (by decide), pk, bndS, if_neg (by decide)]) (fun self i g hi ⟨q1, q2, q3, q4⟩ => by
      have yb := to1_in (tp := tp) (f := isBl) (n := tp.length) (p := p) (i := i) (by omega)
      have g3 : g.1 155 3 = nI tp.length := by rw [q3 3 (by decide)]; exact h3
      have pk := m_peek (h := g) (q := p + i) T g3 q4 (by rw [(q1 156 (by decide)).1]; exact hl) (by omega)
      rw [if_pos (by omega)] at pk
      have c2 := T.b (p + i)
      refine ⟨sI g 155 4 (nI (p + i + 1)), ?_, q1.tr (Same.ofI (by decide)), q2, fun j hj => by rw [sI_nk1 hj]; exact q3 j hj, sI_s⟩
      unfold F_X13_next_0 B_X13_next_18
      unfold isBl at yb
      rw [Bool.or_eq_true, decide_eq_true_eq, decide_eq_true_eq] at yb
      by_cases h1 : tp.getD (p + i) 0 = 32
      · simp (disch := omega) only [li_0, li_1, li_2, li_3, li_4, li_5, li_6, li_7, li_8, li_9, li_10, li_12, li_13, li_14, li_15, li_16, li_20, li_24, li_25, li_31, li_32, li_40, li_48, li_54, li_56, li_64, li_72, li_97, li_99, li_100, li_112, li_122, li_144, li_145, li_155, li_157, li_200, li_216, li_255, li_256, li_432, li_437, li_438, li_462, li_463, li_713, li_900, li_940, lL_0, lL_1, lL_255, lL_1099511627776, neg_1, ltT, ltF, leT, leF, eqT, eqF, ltMT, ltMF, leMT, leMF, eqMF, eqMF', addM, inbT, clp, nI_add, subN, pk_mul, nzT, remN, shl1, bitN, bit0, bit1, lcE, lcLE, lcLT, LleT, LleF, LltT, LltF, LeqT, LeqF, ↓bndS, ↓bnvS, ↓lt_s1, bndS, bnvS, eq_self, ↓reduceIte, pk, q4, h1]
      · have h2 : tp.getD (p + i) 0 = 10 := by omega
        simp (disch := omega) only [li_0, li_1, li_2, li_3, li_4, li_5, li_6, li_7, li_8, li_9, li_10, li_12, li_13, li_14, li_15, li_16, li_20, li_24, li_25, li_31, li_32, li_40, li_48, li_54, li_56, li_64, li_72, li_97, li_99, li_100, li_112, li_122, li_144, li_145, li_155, li_157, li_200, li_216, li_255, li_256, li_432, li_437, li_438, li_462, li_463, li_713, li_900, li_940, lL_0, lL_1, lL_255, lL_1099511627776, neg_1, ltT, ltF, leT, leF, eqT, eqF, ltMT, ltMF, leMT, leMF, eqMF, eqMF', addM, inbT, clp, nI_add, subN, pk_mul, nzT, remN, shl1, bitN, bit0, bit1, lcE, lcLE, lcLT, LleT, LleF, LltT, LltF, LeqT, LeqF, ↓bndS, ↓bnvS, ↓lt_s1, bndS, bnvS, eq_self, ↓reduceIte, pk, q4, h2]) h ⟨Same.rf, rfl, fun _ _ => rfl, h4⟩ (by omega)
  refine ⟨h', e, s1, s2, s3, ?_⟩
  rw [s4, show p + (to1 isBl tp tp.length p - p) = to1 isBl tp tp.length p by omega]
/-- so far all letters, all digits -/
def flg (tp : List Nat) (s i : Nat) : Bool := if isLt (tp.getD s 0) = true then decide (cnt isDg tp s i = 0) else decide (cnt isLt tp s i = 0)
theorem flg_s {s i : Nat} (hw : isWd (tp.getD (s + i) 0) = true) : flg tp s (i + 1) = (flg tp s i && (isLt (tp.getD (s + i) 0) == isLt (tp.getD s 0))) := by
  have eL : cnt isLt tp s (i + 1) = cnt isLt tp s i + (if isLt (tp.getD (s + i) 0) = true then 1 else 0) := rfl
  have eD : cnt isDg tp s (i + 1) = cnt isDg tp s i + (if isDg (tp.getD (s + i) 0) = true then 1 else 0) := rfl
  unfold flg
  rw [eL, eD]
  rcases lw _ hw with ⟨a, b⟩ | ⟨a, b⟩
  · rw [a, b]
    cases isLt (tp.getD s 0) <;> simp
  · rw [a, b]
    cases isLt (tp.getD s 0) <;> simp
theorem m_next157 {s : Nat} (T : Tp tp) (h3 : h.1 155 3 = nI tp.length) (h4 : h.1 155 4 = nI s) (hl : lsB (h.1 156) tp) (hs : s < tp.length) (h12 : h.1 155 12 = nI 0) (h13 : h.1 155 13 = nI 0) (h16 : h.2.1 155 16 = lN 0) (kk : Int32 → Hp → Option Hp) : ∃ h', itr2 (F_X13_next_157 (nI (isLt (tp.getD s 0)).toNat) kk) N0 (nI 1) h = kk (nI (flg tp s (tkE tp s - s)).toNat) h' ∧ Same [155] h h' ∧ (∀ j, j ≠ 4 → j ≠ 12 → j ≠ 13 → h'.1 155 j = h.1 155 j) ∧ (∀ j, j ≠ 16 → h'.2.1 155 j = h.2.1 155 j) ∧ h'.2.2 = h.2.2 ∧ h'.1 155 4 = nI (tkE tp s) ∧ h'.1 155 12 = nI (tkE tp s - s) ∧ (cnt isDg tp s (tkE tp s - s) = 0 → tkE tp s - s ≤ 6 → h'.2.1 155 16 = lN (nmM (tkN tp s (tkE tp s - s)))) ∧ (cnt isLt tp s (tkE tp s - s) = 0 → tkE tp s - s ≤ 2 → h'.1 155 13 = nI (tkV tp s (tkE tp s - s))) := by
  have t9 := T.1
  have be : s ≤ tkE tp s ∧ tkE tp s ≤ tp.length := to1_b (f := isWd) (by omega)
  have f0 : flg tp s 0 = true := by unfold flg; cases isLt (tp.getD s 0) <;> rfl
  obtain ⟨h', e, s1, s2, s3, s0, s4, s5, s6, s7⟩ := loopQ2 (F := F_X13_next_157 (nI (isLt (tp.getD s 0)).toNat) kk) (k := fun g => kk (nI (flg tp s (tkE tp s - s)).toNat) g) (tkE tp s - s) (fun i => nI (flg tp s i).toNat) (fun i g => Same [155] h g ∧ (∀ j, j ≠ 4 → j ≠ 12 → j ≠ 13 → g.1 155 j = h.1 155 j) ∧ (∀ j, j ≠ 16 → g.2.1 155 j = h.2.1 155 j) ∧ g.2.2 = h.2.2 ∧ g.1 155 4 = nI (s + i) ∧ g.1 155 12 = nI i ∧ (cnt isDg tp s i = 0 → i ≤ 6 → g.2.1 155 16 = lN (nmM (tkN tp s i))) ∧ (cnt isLt tp s i = 0 → i ≤ 2 → g.1 155 13 = nI (tkV tp s i))) (fun self g ⟨q1, q2, q3, q0, q4, q5, q6, q7⟩ => by
      rw [show s + (tkE tp s - s) = tkE tp s by omega] at q4
      have g3 : g.1 155 3 = nI tp.length := by rw [q2 3 (by decide) (by decide) (by decide)]; exact h3
      have pk := m_peek (h := g) (q := tkE tp s) T g3 q4 (by rw [(q1 156 (by decide)).1]; exact hl) (by omega)
      unfold F_X13_next_157
      by_cases h1 : tkE tp s < tp.length
      · rw [if_pos h1] at pk
        have nw : isWd (tp.getD (tkE tp s) 0) = false := to1_at (f := isWd) (n := tp.length) (p := s) h1
        have c2 := T.b (tkE tp s)
        have sm := m_isSmall (h := g) c2
        have dg := m_isDigit (h := g) c2
        unfold isWd at nw
        rw [Bool.or_eq_false_iff] at nw
        rw [nw.1] at sm
        rw [nw.2] at dg
        rw [pk, bndS, sm, bndS, if_pos (by decide), pk, bndS, dg, bndS, if_pos (by decide)]
      · rw [if_neg h1] at pk
        have sm : f_X13_isSmall (-1) g = some (0, g) := by unfold f_X13_isSmall; rw [if_pos (by decide)]
        have dg : f_X13_isDigit (-1) g = some (0, g) := by unfold f_X13_isDigit; rw [if_pos (by decide)]
        rw [pk, bndS, sm, bndS, if_pos rfl, pk, bndS, dg, bndS, if_pos rfl]) (fun self i g hi ⟨q1, q2, q3, q0, q4, q5, q6, q7⟩ => by
      have yw := tk_in (tp := tp) (s := s) hi
      have g3 : g.1 155 3 = nI tp.length := by rw [q2 3 (by decide) (by decide) (by decide)]; exact h3
      have gl : lsB (g.1 156) tp := by rw [(q1 156 (by decide)).1]; exact hl
      have c2 := T.b (s + i)
      have PK : ∀ g' : Hp, g'.1 155 3 = nI tp.length → g'.1 155 4 = nI (s + i) → lsB (g'.1 156) tp → f_X13_peek g' = some (nI (tp.getD (s + i) 0), g') := fun g' a b c => by
        have := m_peek (h := g') (q := s + i) T a b c (by omega)
        rw [if_pos (by omega)] at this
        exact this
      have pk := PK g g3 q4 gl
      have sm := m_isSmall (h := g) c2
      have dg := m_isDigit (h := g) c2
      have eL : cnt isLt tp s (i + 1) = cnt isLt tp s i + (if isLt (tp.getD (s + i) 0) = true then 1 else 0) := rfl
      have eD : cnt isDg tp s (i + 1) = cnt isDg tp s i + (if isDg (tp.getD (s + i) 0) = true then 1 else 0) := rfl
      obtain ⟨ga, hga⟩ : ∃ ga, ga = (if 6 ≤ i then g else sL g 155 16 (jlshl (g.2.1 155 16) 8 ||| lN (tp.getD (s + i) 0))) := ⟨_, rfl⟩
      obtain ⟨gb, hgb⟩ : ∃ gb, gb = (if 2 ≤ i then ga else sI ga 155 13 (10 * ga.1 155 13 + nI (tp.getD (s + i) 0) - 48)) := ⟨_, rfl⟩
      have ga1 : ga.1 = g.1 := by rw [hga]; by_cases h1 : 6 ≤ i <;> simp [h1] <;> rfl
      have ga2 : ga.2.2 = g.2.2 := by rw [hga]; by_cases h1 : 6 ≤ i <;> simp [h1] <;> rfl
      have gaS : Same [155] g ga := by
        rw [hga]
        by_cases h1 : 6 ≤ i
        · rw [if_pos h1]; exact Same.rf
        · rw [if_neg h1]; exact Same.ofL (by decide)
      have gbS : Same [155] ga gb := by
        rw [hgb]
        by_cases h1 : 2 ≤ i
        · rw [if_pos h1]; exact Same.rf
        · rw [if_neg h1]; exact Same.ofI (by decide)
      have gb2 : gb.2 = ga.2 := by rw [hgb]; by_cases h1 : 2 ≤ i <;> simp [h1] <;> rfl
      have gbI : ∀ j, j ≠ 13 → gb.1 155 j = ga.1 155 j := fun j hj => by
        rw [hgb]
        by_cases h1 : 2 ≤ i
        · rw [if_pos h1]
        · rw [if_neg h1, sI_nk1 hj]
      have E224 : ∀ x3 : Int32, B_X13_next_224 (nI (isLt (tp.getD s 0)).toNat) kk self x3 ga = self x3 (sI (sI gb 155 12 (nI (i + 1))) 155 4 (nI (s + i + 1))) := fun x3 => by
        have b12 : gb.1 155 12 = nI i := by rw [gbI 12 (by decide), ga1]; exact q5
        have b4 : (sI gb 155 12 (nI (i + 1))).1 155 4 = nI (s + i) := by rw [sI_nk1 (by decide), gbI 4 (by decide), ga1]; exact q4
        have fin : B_X13_next_251 (nI (isLt (tp.getD s 0)).toNat) kk self x3 gb = self x3 (sI (sI gb 155 12 (nI (i + 1))) 155 4 (nI (s + i + 1))) := by
          unfold B_X13_next_251
          rw [b12, nI_1, lt_s1, b4, nI_1, lt_s1]
        rw [← fin]
        unfold B_X13_next_224
        rw [show ga.1 155 12 = nI i by rw [ga1]; exact q5, li_2]
        by_cases h1 : 2 ≤ i
        · rw [if_pos (nI_le h1 (by omega)), hgb, if_pos h1]
        · rw [if_neg (nI_ge (by omega) (by omega)), PK ga (by rw [ga1]; exact g3) (by rw [ga1]; exact q4) (by rw [ga1]; exact gl), bndS, lt_s1, hgb, if_neg h1]
      have E197 : ∀ x3 : Int32, B_X13_next_197 (nI (isLt (tp.getD s 0)).toNat) kk self x3 g = self x3 (sI (sI gb 155 12 (nI (i + 1))) 155 4 (nI (s + i + 1))) := fun x3 => by
        rw [← E224 x3]
        unfold B_X13_next_197
        rw [q5, li_6]
        by_cases h1 : 6 ≤ i
        · rw [if_pos (nI_le h1 (by omega)), hga, if_pos h1]
        · rw [if_neg (nI_ge (by omega) (by omega)), pk, bndS, ItoL (by omega), lt_s1, hga, if_neg h1]
      have E177 : B_X13_next_177 (nI (isLt (tp.getD s 0)).toNat) kk self (nI (flg tp s i).toNat) g = self (nI (flg tp s (i + 1)).toNat) (sI (sI gb 155 12 (nI (i + 1))) 155 4 (nI (s + i + 1))) := by
        rw [flg_s yw]
        unfold B_X13_next_177
        cases hf : flg tp s i
        · rw [if_pos (by decide), E197]; rfl
        · rw [if_neg (by decide), pk, bndS, sm, bndS, E197 1, E197 0]
          cases isLt (tp.getD (s + i) 0) <;> cases isLt (tp.getD s 0)
          · rw [if_pos rfl]; rfl
          · rw [if_neg (by decide)]; rfl
          · rw [if_neg (by decide)]; rfl
          · rw [if_pos rfl]; rfl
      refine ⟨sI (sI gb 155 12 (nI (i + 1))) 155 4 (nI (s + i + 1)), ?_, (((q1.tr gaS).tr gbS).tr (Same.ofI (by decide))).tr (Same.ofI (by decide)), fun j j1 j2 j3 => ?_, fun j hj => ?_, ?_, sI_s, ?_, fun z1 z2 => ?_, fun z1 z2 => ?_⟩
      · show F_X13_next_157 _ kk self (nI (flg tp s i).toNat) g = _
        unfold F_X13_next_157
        rw [pk, bndS, sm, bndS]
        rcases lw _ yw with ⟨a, b⟩ | ⟨a, b⟩
        · rw [a, if_neg (by decide), E177]
        · rw [a, if_pos (by decide), pk, bndS, dg, bndS, b, if_neg (by decide), E177]
      · rw [sI_nk1 j1, sI_nk1 j2, gbI j j3, ga1]; exact q2 j j1 j2 j3
      · show gb.2.1 155 j = _
        rw [gb2, hga]
        by_cases h1 : 6 ≤ i
        · rw [if_pos h1]; exact q3 j hj
        · rw [if_neg h1, sL_nk1 hj]; exact q3 j hj
      · show gb.2.2 = _
        rw [gb2, ga2]; exact q0
      · rw [sI_nk1 (by decide)]; exact sI_s
      · show gb.2.1 155 16 = _
        have a : isLt (tp.getD (s + i) 0) = true := by
          rcases lw _ yw with ⟨a, b⟩ | ⟨a, b⟩
          · exact a
          · rw [b, if_pos rfl] at eD; omega
        have al : ∀ j, j < i → isLt (tp.getD (s + j) 0) = true := fun j hj => by
          have := cnt_0 (f := isDg) (tp := tp) (s := s) i (by omega) j hj
          rcases lw _ (tk_in (tp := tp) (s := s) (j := j) (by omega)) with ⟨a, b⟩ | ⟨a, b⟩
          · exact a
          · rw [this] at b; cases b
        have nl := nmM_lt (tkN tp s i) (fun x hx => by have := tkN_ok i al x hx; omega)
        rw [tkN_len] at nl
        have n5 : 256 ^ i ≤ 256 ^ 5 := Nat.pow_le_pow_right (by decide) (by omega)
        have n6 : (256 : Nat) ^ 5 = 1099511627776 := by decide
        unfold isLt at a
        rw [Bool.and_eq_true, decide_eq_true_eq, decide_eq_true_eq] at a
        rw [gb2, hga, if_neg (by omega), sL_s, q6 (by omega) (by omega), li_8, Lshl _ (by decide), wb_or (by omega) (by omega)]
        show _ = lN (nmM (tkN tp s i ++ [tp.getD (s + i) 0 - 96]))
        rw [nmM_snoc, Nat.or_comm, or_add (n := 8) (show tp.getD (s + i) 0 < 2 ^ 8 from c2), Nat.add_comm, show tp.getD (s + i) 0 - 96 + 96 = tp.getD (s + i) 0 by omega]
      · rw [sI_nk1 (by decide), sI_nk1 (by decide), hgb, if_neg (by omega), sI_s, ga1, q7 (by omega) (by omega)]
        have b : isDg (tp.getD (s + i) 0) = true := by
          rcases lw _ yw with ⟨a, b⟩ | ⟨a, b⟩
          · rw [a, if_pos rfl] at eL; omega
          · exact b
        unfold isDg at b
        rw [Bool.and_eq_true, decide_eq_true_eq, decide_eq_true_eq] at b
        rw [li_10, li_48, pk_mul, nI_add, subN (by omega)]
        show _ = nI (tkV tp s i * 10 + (tp.getD (s + i) 0 - 48))
        rw [show 10 * tkV tp s i + tp.getD (s + i) 0 - 48 = tkV tp s i * 10 + (tp.getD (s + i) 0 - 48) by omega]) h ⟨Same.rf, fun _ _ _ _ => rfl, fun _ _ => rfl, rfl, h4, h12, fun _ _ => h16, fun _ _ => h13⟩ (by omega)
  rw [f0] at e
  refine ⟨h', e, s1, s2, s3, s0, ?_, s5, s6, s7⟩
  rw [s4, show s + (tkE tp s - s) = tkE tp s by omega]
end TOKD
