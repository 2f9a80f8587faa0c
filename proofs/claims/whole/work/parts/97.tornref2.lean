section TORN8
variable {σ : Nat → Nat} {nm : Nat → List Nat} {h h' : Hp}
/-- the reference while it looks -/
def TM (σ : Nat → Nat) (l : Nat → Option Nat) (n : Nat) (h : Hp) : Prop := (∀ k, k < 713 → h.1 157 k = nI (σ k)) ∧ ∀ i, i < n → h.1 178 i = lI (l i)
theorem TM.same {l : Nat → Option Nat} {n : Nat} (B : TM σ l n h) {X : List Nat} (s : Same X h h') (hX : 157 ∉ X ∧ 178 ∉ X) : TM σ l n h' := by
  refine ⟨?_, ?_⟩
  · rw [(s 157 hX.1).1]; exact B.1
  · rw [(s 178 hX.2).1]; exact B.2
theorem lI_neg {p : Option Nat} (hp : ∀ v, p = some v → v < 8) : (lI p < 0) = (p = none) ∧ (0 ≤ lI p) = (p ≠ none) := by
  cases p with
  | none => exact ⟨by rw [eq_self]; exact eq_true (by decide), eq_false (by decide) |>.trans (eq_false (fun z => z rfl)).symm⟩
  | some v =>
    have v8 := hp v rfl
    exact ⟨(eq_false (show ¬ nI v < nI 0 from nI_nlt (by omega) (by omega))).trans (eq_false (fun z => by cases z)).symm, (eq_true (show nI 0 ≤ nI v from nI_le (by omega) (by omega))).trans (eq_true (fun z => by cases z)).symm⟩
theorem m_mayBe {l : Nat → Option Nat} {n i w : Nat} (B : TM σ l n h) (hL : LtOk l) (hi : i < n) (hn : n ≤ 12) (hw : w < 8) : f_X13_mayBe (nI i) (nI w) h = some (nI (may (l i) w).toNat, h) := by
  have e := B.2 i hi
  have e1 := (lI_neg (p := l i) (hL i)).1
  have e2 := (lI_n (p := l i) (w := w) (hL i) hw).2
  unfold f_X13_mayBe
  rw [if_pos (inb_nI (by omega) (by decide)), clp (by omega), e]
  by_cases h1 : l i = none
  · rw [if_pos (e1.mpr h1), h1]; rfl
  · rw [if_neg (fun z => h1 (e1.mp z)), if_pos (inb_nI (by omega) (by decide))]
    cases h2 : may (l i) w
    · rw [if_neg (fun z => by have := (e2 h1).mp z; rw [h2] at this; cases this)]; rfl
    · rw [if_pos ((e2 h1).mpr h2)]; rfl
theorem m_meantTorn {l : Nat → Option Nat} {n : Nat} (B : TM σ l n h) (C : Cache σ h) (hL : LtOk l) (H : TgOk σ nm) (hn : n ≤ 12) : f_X13_meantTorn (nI n) h = some (nI (mnt σ (xS σ l n)), h) := by
  have h8 := H.1.2.2.1
  have g2 : h.1 157 2 = nI (σ 2) := B.1 2 (by omega)
  unfold f_X13_meantTorn
  refine sq3 n (fun i => mst (xS σ l i)) (fun i => nI i) (fun _ => h) (fun self => ?_) (fun self i hi => ?_) (by omega) (by unfold mst xS; rw [if_pos rfl]; rfl) rfl rfl
  · unfold F_X13_meantTorn_7
    rw [if_pos (nI_le (Nat.le_refl _) (by omega))]
    show bnd (f_X13_ends (mst (xS σ l n)) h) _ = _
    rw [m_ends (fun k hk => B.1 k (by omega)) H (xS_le H l n), bndS]
  · have e : mst (xS σ l (i + 1)) = lN (xS σ l (i + 1)) := by
      have := xS_lt H l i
      unfold mst
      rw [if_neg (by omega)]
    have ol : ∀ m, m ≤ σ 2 → ors (fun w => if may (l i) w = true then stp σ (xS σ l i) w else 0) m < 2 ^ 40 := fun m hm => ors_lt (k := 40) m (fun w hw => by
      show (if may (l i) w = true then stp σ (xS σ l i) w else 0) < _
      cases may (l i) w
      · exact Nat.two_pow_pos 40
      · exact stp_lt H (by omega))
    unfold F_X13_meantTorn_7
    rw [if_neg (nI_ge hi (by omega)), e]
    refine sq3 (σ 2) (fun w => lN (ors (fun w => if may (l i) w = true then stp σ (xS σ l i) w else 0) w)) (fun w => nI w) (fun _ => h) (fun self2 => ?_) (fun self2 w hw => ?_) (by omega) rfl rfl rfl
    · unfold F_X13_meantTorn_19
      simp (disch := omega) only [li_0, li_1, li_2, li_3, li_4, li_5, li_6, li_7, li_8, li_9, li_10, li_12, li_13, li_14, li_15, li_16, li_20, li_24, li_25, li_31, li_32, li_40, li_48, li_54, li_56, li_64, li_72, li_97, li_99, li_100, li_112, li_122, li_144, li_145, li_155, li_157, li_200, li_216, li_255, li_256, li_432, li_437, li_438, li_462, li_463, li_713, li_900, li_940, lL_0, lL_1, lL_255, lL_1099511627776, neg_1, ltT, ltF, leT, leF, eqT, eqF, ltMT, ltMF, leMT, leMF, eqMF, eqMF', addM, inbT, clp, nI_add, subN, pk_mul, nzT, remN, shl1, bitN, bit0, bit1, lcE, lcLE, lcLT, LleT, LleF, LltT, LltF, LeqT, LeqF, ↓bndS, ↓bnvS, ↓lt_s1, bndS, bnvS, eq_self, ↓reduceIte, g2]
      rfl
    · have mb := m_mayBe (w := w) B hL hi hn (by omega)
      have mc := m_comes (X := xS σ l i) (w := w) (fun k hk => B.1 k (by omega)) C H (xS_le H l i) hw
      have eo : ors (fun w => if may (l i) w = true then stp σ (xS σ l i) w else 0) (w + 1) = ors (fun w => if may (l i) w = true then stp σ (xS σ l i) w else 0) w ||| (if may (l i) w = true then stp σ (xS σ l i) w else 0) := rfl
      have o1 := ol w (by omega)
      have s1 := stp_lt (X := xS σ l i) (w := w) H (by omega)
      unfold F_X13_meantTorn_19
      rw [eo]
      cases hm : may (l i) w
      · simp (disch := omega) only [li_0, li_1, li_2, li_3, li_4, li_5, li_6, li_7, li_8, li_9, li_10, li_12, li_13, li_14, li_15, li_16, li_20, li_24, li_25, li_31, li_32, li_40, li_48, li_54, li_56, li_64, li_72, li_97, li_99, li_100, li_112, li_122, li_144, li_145, li_155, li_157, li_200, li_216, li_255, li_256, li_432, li_437, li_438, li_462, li_463, li_713, li_900, li_940, lL_0, lL_1, lL_255, lL_1099511627776, neg_1, ltT, ltF, leT, leF, eqT, eqF, ltMT, ltMF, leMT, leMF, eqMF, eqMF', addM, inbT, clp, nI_add, subN, pk_mul, nzT, remN, shl1, bitN, bit0, bit1, lcE, lcLE, lcLT, LleT, LleF, LltT, LltF, LeqT, LeqF, ↓bndS, ↓bnvS, ↓lt_s1, bndS, bnvS, eq_self, ↓reduceIte, g2, mb, hm, Bool.false_eq_true, Nat.or_zero]
      · simp (disch := omega) only [li_0, li_1, li_2, li_3, li_4, li_5, li_6, li_7, li_8, li_9, li_10, li_12, li_13, li_14, li_15, li_16, li_20, li_24, li_25, li_31, li_32, li_40, li_48, li_54, li_56, li_64, li_72, li_97, li_99, li_100, li_112, li_122, li_144, li_145, li_155, li_157, li_200, li_216, li_255, li_256, li_432, li_437, li_438, li_462, li_463, li_713, li_900, li_940, lL_0, lL_1, lL_255, lL_1099511627776, neg_1, ltT, ltF, leT, leF, eqT, eqF, ltMT, ltMF, leMT, leMF, eqMF, eqMF', addM, inbT, clp, nI_add, subN, pk_mul, nzT, remN, shl1, bitN, bit0, bit1, lcE, lcLE, lcLT, LleT, LleF, LltT, LltF, LeqT, LeqF, ↓bndS, ↓bnvS, ↓lt_s1, bndS, bnvS, eq_self, ↓reduceIte, g2, mb, hm, Bool.true_eq_false, mc]
        rw [wb_or (Nat.lt_trans o1 (by decide)) (by omega)]
theorem fol_n {o k : Nat} (ho : o < 5) : fol σ o k = σ (15 + 5 * o + k) := if_neg (by omega)
theorem tT_5 (l : Nat → Option Nat) (i : Nat) : tT σ l (i + 1) 5 = 0 := by
  unfold tT
  rw [if_neg (show ¬ 5 < 5 by decide)]
theorem m_ct36 {l : Nat → Option Nat} {n i k : Nat} {b : Int64} (B : TM σ l n h) (H : TgOk σ nm) (hi : i < n) (hn : n ≤ 12) (hk : k < 5) (hb : b = if i = 0 then lN (σ (5 + k)) else lN 0) (hw : 0 < i → ∀ o, o < 5 → h.2.1 181 (5 * (i - 1) + o) = lN (tT σ l i o)) (kk : Int64 → Hp → Option (Int64 × Hp)) : itr3 (F_X13_countTorn_36 (nI n) (nI i) (nI k) kk) N0 b (nI 0) h = kk (lN (sm (fun o => fol σ o k * tT σ l i o) 6)) h := by
  by_cases h0 : i = 0
  · subst h0
    rw [if_pos rfl] at hb
    have e : sm (fun o => fol σ o k * tT σ l 0 o) 6 = σ (5 + k) := by
      rw [sm_one (f := fun o => fol σ o k * tT σ l 0 o) (i := 5) 6 (by decide) (fun j _ hne => by
        show _ * e5 j = 0
        unfold e5
        rw [if_neg hne, Nat.mul_zero])]
      show _ * e5 5 = _
      unfold e5 fol
      rw [if_pos rfl, if_pos rfl, Nat.mul_one]
    rw [e, hb]
    refine sq3 0 (fun _ => lN (σ (5 + k))) (fun o => nI o) (fun _ => h) (fun self => ?_) (fun self o ho => by omega) (by omega) rfl rfl rfl
    unfold F_X13_countTorn_36
    simp (disch := omega) only [li_0, li_1, li_2, li_3, li_4, li_5, li_6, li_7, li_8, li_9, li_10, li_12, li_13, li_14, li_15, li_16, li_20, li_24, li_25, li_31, li_32, li_40, li_48, li_54, li_56, li_64, li_72, li_97, li_99, li_100, li_112, li_122, li_144, li_145, li_155, li_157, li_200, li_216, li_255, li_256, li_432, li_437, li_438, li_462, li_463, li_713, li_900, li_940, lL_0, lL_1, lL_255, lL_1099511627776, neg_1, ltT, ltF, leT, leF, eqT, eqF, ltMT, ltMF, leMT, leMF, eqMF, eqMF', addM, inbT, clp, nI_add, subN, pk_mul, nzT, remN, shl1, bitN, bit0, bit1, lcE, lcLE, lcLT, LleT, LleF, LltT, LltF, LeqT, LeqF, ↓bndS, ↓bnvS, ↓lt_s1, bndS, bnvS, eq_self, ↓reduceIte]
  · rw [if_neg h0] at hb
    have e : sm (fun o => fol σ o k * tT σ l i o) 6 = sm (fun o => σ (15 + 5 * o + k) * tT σ l i o) 5 := by
      obtain ⟨j, rfl⟩ : ∃ j, i = j + 1 := ⟨i - 1, by omega⟩
      show sm (fun o => fol σ o k * tT σ l (j + 1) o) 5 + fol σ 5 k * tT σ l (j + 1) 5 = _
      rw [tT_5, Nat.mul_zero, Nat.add_zero]
      exact sm_cong 5 (fun o ho => by rw [fol_n ho])
    rw [e, hb]
    refine sq3 5 (fun o => lN (sm (fun o => σ (15 + 5 * o + k) * tT σ l i o) o)) (fun o => nI o) (fun _ => h) (fun self => ?_) (fun self o ho => ?_) (by omega) rfl rfl rfl
    · unfold F_X13_countTorn_36
      simp (disch := omega) only [li_0, li_1, li_2, li_3, li_4, li_5, li_6, li_7, li_8, li_9, li_10, li_12, li_13, li_14, li_15, li_16, li_20, li_24, li_25, li_31, li_32, li_40, li_48, li_54, li_56, li_64, li_72, li_97, li_99, li_100, li_112, li_122, li_144, li_145, li_155, li_157, li_200, li_216, li_255, li_256, li_432, li_437, li_438, li_462, li_463, li_713, li_900, li_940, lL_0, lL_1, lL_255, lL_1099511627776, neg_1, ltT, ltF, leT, leF, eqT, eqF, ltMT, ltMF, leMT, leMF, eqMF, eqMF', addM, inbT, clp, nI_add, subN, pk_mul, nzT, remN, shl1, bitN, bit0, bit1, lcE, lcLE, lcLT, LleT, LleF, LltT, LltF, LeqT, LeqF, ↓bndS, ↓bnvS, ↓lt_s1, bndS, bnvS, eq_self, ↓reduceIte]
    · have f1 := H.2.1 (15 + 5 * o + k) (by omega) (by omega)
      have m1 := B.1 (15 + 5 * o + k) (by omega)
      have w1 := hw (by omega) o ho
      have es : sm (fun o => σ (15 + 5 * o + k) * tT σ l i o) (o + 1) = sm (fun o => σ (15 + 5 * o + k) * tT σ l i o) o + σ (15 + 5 * o + k) * tT σ l i o := rfl
      unfold F_X13_countTorn_36
      rw [es, mul01 f1]
      by_cases h1 : σ (15 + 5 * o + k) = 1
      · simp (disch := omega) only [li_0, li_1, li_2, li_3, li_4, li_5, li_6, li_7, li_8, li_9, li_10, li_12, li_13, li_14, li_15, li_16, li_20, li_24, li_25, li_31, li_32, li_40, li_48, li_54, li_56, li_64, li_72, li_97, li_99, li_100, li_112, li_122, li_144, li_145, li_155, li_157, li_200, li_216, li_255, li_256, li_432, li_437, li_438, li_462, li_463, li_713, li_900, li_940, lL_0, lL_1, lL_255, lL_1099511627776, neg_1, ltT, ltF, leT, leF, eqT, eqF, ltMT, ltMF, leMT, leMF, eqMF, eqMF', addM, inbT, clp, nI_add, subN, pk_mul, nzT, remN, shl1, bitN, bit0, bit1, lcE, lcLE, lcLT, LleT, LleF, LltT, LltF, LeqT, LeqF, ↓bndS, ↓bnvS, ↓lt_s1, bndS, bnvS, eq_self, ↓reduceIte, m1, h1, w1, lN_add]
      · simp (disch := omega) only [li_0, li_1, li_2, li_3, li_4, li_5, li_6, li_7, li_8, li_9, li_10, li_12, li_13, li_14, li_15, li_16, li_20, li_24, li_25, li_31, li_32, li_40, li_48, li_54, li_56, li_64, li_72, li_97, li_99, li_100, li_112, li_122, li_144, li_145, li_155, li_157, li_200, li_216, li_255, li_256, li_432, li_437, li_438, li_462, li_463, li_713, li_900, li_940, lL_0, lL_1, lL_255, lL_1099511627776, neg_1, ltT, ltF, leT, leF, eqT, eqF, ltMT, ltMF, leMT, leMF, eqMF, eqMF', addM, inbT, clp, nI_add, subN, pk_mul, nzT, remN, shl1, bitN, bit0, bit1, lcE, lcLE, lcLT, LleT, LleF, LltT, LltF, LeqT, LeqF, ↓bndS, ↓bnvS, ↓lt_s1, bndS, bnvS, eq_self, ↓reduceIte, m1, h1, lN_add]
theorem m_ct98 {l : Nat → Option Nat} {n i k : Nat} {x4 : Int64} (B : TM σ l n h) (hL : LtOk l) (H : TgOk σ nm) (hi : i < n) (hn : n ≤ 12) (hk : k < 5) (kk : Int32 → Hp → Option (Int64 × Hp)) : itr3 (F_X13_countTorn_98 (nI n) (nI i) (nI k) x4 kk) N0 (nI 0) (nI 0) h = kk (nI (hre σ (l i) k)) h := by
  have h8 := H.1.2.2.1
  have g2 : h.1 157 2 = nI (σ 2) := B.1 2 (by omega)
  refine sq3 (σ 2) (fun w => nI (sm (fun w => (may (l i) w).toNat * σ (72 + 5 * w + k)) w)) (fun w => nI w) (fun _ => h) (fun self => ?_) (fun self w hw => ?_) (by omega) rfl rfl rfl
  · unfold F_X13_countTorn_98
    simp (disch := omega) only [li_0, li_1, li_2, li_3, li_4, li_5, li_6, li_7, li_8, li_9, li_10, li_12, li_13, li_14, li_15, li_16, li_20, li_24, li_25, li_31, li_32, li_40, li_48, li_54, li_56, li_64, li_72, li_97, li_99, li_100, li_112, li_122, li_144, li_145, li_155, li_157, li_200, li_216, li_255, li_256, li_432, li_437, li_438, li_462, li_463, li_713, li_900, li_940, lL_0, lL_1, lL_255, lL_1099511627776, neg_1, ltT, ltF, leT, leF, eqT, eqF, ltMT, ltMF, leMT, leMF, eqMF, eqMF', addM, inbT, clp, nI_add, subN, pk_mul, nzT, remN, shl1, bitN, bit0, bit1, lcE, lcLE, lcLT, LleT, LleF, LltT, LltF, LeqT, LeqF, ↓bndS, ↓bnvS, ↓lt_s1, bndS, bnvS, eq_self, ↓reduceIte, g2]
    rfl
  · have mb := m_mayBe (w := w) B hL hi hn (by omega)
    have m1 := B.1 (72 + 5 * w + k) (by omega)
    have es : sm (fun w => (may (l i) w).toNat * σ (72 + 5 * w + k)) (w + 1) = sm (fun w => (may (l i) w).toNat * σ (72 + 5 * w + k)) w + (may (l i) w).toNat * σ (72 + 5 * w + k) := rfl
    unfold F_X13_countTorn_98
    rw [es]
    cases hm : may (l i) w
    · simp (disch := omega) only [li_0, li_1, li_2, li_3, li_4, li_5, li_6, li_7, li_8, li_9, li_10, li_12, li_13, li_14, li_15, li_16, li_20, li_24, li_25, li_31, li_32, li_40, li_48, li_54, li_56, li_64, li_72, li_97, li_99, li_100, li_112, li_122, li_144, li_145, li_155, li_157, li_200, li_216, li_255, li_256, li_432, li_437, li_438, li_462, li_463, li_713, li_900, li_940, lL_0, lL_1, lL_255, lL_1099511627776, neg_1, ltT, ltF, leT, leF, eqT, eqF, ltMT, ltMF, leMT, leMF, eqMF, eqMF', addM, inbT, clp, nI_add, subN, pk_mul, nzT, remN, shl1, bitN, bit0, bit1, lcE, lcLE, lcLT, LleT, LleF, LltT, LltF, LeqT, LeqF, ↓bndS, ↓bnvS, ↓lt_s1, bndS, bnvS, eq_self, ↓reduceIte, g2, mb, hm, Bool.toNat_false, Nat.zero_mul]
    · simp (disch := omega) only [li_0, li_1, li_2, li_3, li_4, li_5, li_6, li_7, li_8, li_9, li_10, li_12, li_13, li_14, li_15, li_16, li_20, li_24, li_25, li_31, li_32, li_40, li_48, li_54, li_56, li_64, li_72, li_97, li_99, li_100, li_112, li_122, li_144, li_145, li_155, li_157, li_200, li_216, li_255, li_256, li_432, li_437, li_438, li_462, li_463, li_713, li_900, li_940, lL_0, lL_1, lL_255, lL_1099511627776, neg_1, ltT, ltF, leT, leF, eqT, eqF, ltMT, ltMF, leMT, leMF, eqMF, eqMF', addM, inbT, clp, nI_add, subN, pk_mul, nzT, remN, shl1, bitN, bit0, bit1, lcE, lcLE, lcLT, LleT, LleF, LltT, LltF, LeqT, LeqF, ↓bndS, ↓bnvS, ↓lt_s1, bndS, bnvS, eq_self, ↓reduceIte, g2, mb, hm, Bool.true_eq_false, m1, Bool.toNat_true, Nat.one_mul]
theorem m_countTorn {l : Nat → Option Nat} {n : Nat} (B : TM σ l n h) (hL : LtOk l) (H : TgOk σ nm) (h0 : 1 ≤ n) (hn : n ≤ 12) : ∃ h', f_X13_countTorn (nI n) h = some (lN (tot σ l n), h') ∧ Same [181] h h' ∧ h'.1 = h.1 := by
  obtain ⟨h1, e1, s1, s2, s3⟩ := loop2n (F := F_X13_countTorn_2 (nI n) (fun h31 => itr3 (F_X13_countTorn_181 (nI n) (fun v38 h37 => some (v38, h37))) N0 (lN 0) (nI 0) h31)) (k := fun h31 => itr3 (F_X13_countTorn_181 (nI n) (fun v38 h37 => some (v38, h37))) N0 (lN 0) (nI 0) h31) n (fun i g => Same [181] h g ∧ g.1 = h.1 ∧ ∀ j, j < i → ∀ o, o < 5 → g.2.1 181 (5 * j + o) = lN (tT σ l (j + 1) o)) (fun self g _ => by
      unfold F_X13_countTorn_2
      rw [if_pos (nI_le (Nat.le_refl _) (by omega))]) (fun self i g hi ⟨q1, q2, q3⟩ => by
      obtain ⟨g', e, r1, r2, r3, r4⟩ := loop2n (F := F_X13_countTorn_9 (nI n) (nI i) (fun h30 => self (nI (i + 1)) h30)) (k := fun h30 => self (nI (i + 1)) h30) 5 (fun k g' => Same [181] g g' ∧ g'.1 = g.1 ∧ (∀ j, j < 5 * i → g'.2.1 181 j = g.2.1 181 j) ∧ ∀ o, o < k → g'.2.1 181 (5 * i + o) = lN (tT σ l (i + 1) o)) (fun self g' _ => by
          unfold F_X13_countTorn_9
          simp (disch := omega) only [li_0, li_1, li_2, li_3, li_4, li_5, li_6, li_7, li_8, li_9, li_10, li_12, li_13, li_14, li_15, li_16, li_20, li_24, li_25, li_31, li_32, li_40, li_48, li_54, li_56, li_64, li_72, li_97, li_99, li_100, li_112, li_122, li_144, li_145, li_155, li_157, li_200, li_216, li_255, li_256, li_432, li_437, li_438, li_462, li_463, li_713, li_900, li_940, lL_0, lL_1, lL_255, lL_1099511627776, neg_1, ltT, ltF, leT, leF, eqT, eqF, ltMT, ltMF, leMT, leMF, eqMF, eqMF', addM, inbT, clp, nI_add, subN, pk_mul, nzT, remN, shl1, bitN, bit0, bit1, lcE, lcLE, lcLT, LleT, LleF, LltT, LltF, LeqT, LeqF, ↓bndS, ↓bnvS, ↓lt_s1, bndS, bnvS, eq_self, ↓reduceIte]) (fun self2 k g' hk ⟨p1, p2, p3, p4⟩ => by
          have Bg := (B.same (q1.tr p1) (by decide))
          have m5 := Bg.1 (5 + k) (by omega)
          have f5 := H.2.1 (5 + k) (by omega) (by omega)
          have hl := hre_le H (l i) hk
          have et : tT σ l (i + 1) k = sm (fun o => fol σ o k * tT σ l i o) 6 * hre σ (l i) k := if_pos hk
          have A : ∀ b : Int64, (b = if i = 0 then lN (σ (5 + k)) else lN 0) → ∀ kk, itr3 (F_X13_countTorn_36 (nI n) (nI i) (nI k) kk) N0 b (nI 0) g' = kk (lN (sm (fun o => fol σ o k * tT σ l i o) 6)) g' := fun b hb kk => m_ct36 Bg H hi hn hk hb (fun hp o ho => by
            rw [p3 _ (by omega), q3 (i - 1) (by omega) o ho, show i - 1 + 1 = i by omega]) kk
          have A2 : ∀ x4 kk, itr3 (F_X13_countTorn_98 (nI n) (nI i) (nI k) x4 kk) N0 (nI 0) (nI 0) g' = kk (nI (hre σ (l i) k)) g' := fun x4 kk => m_ct98 Bg hL H hi hn hk kk
          refine ⟨sL g' 181 (5 * i + k) (lN (tT σ l (i + 1) k)), ?_, p1.tr (Same.ofL (by decide)), p2, fun j hj => by rw [sL_nk1 (by omega)]; exact p3 j hj, fun o ho => ?_⟩
          · rw [et, ← lN_mul]
            unfold F_X13_countTorn_9
            by_cases hz : i = 0
            · subst hz
              have A0 := A (lN (σ (5 + k))) (by rw [if_pos rfl])
              simp (disch := omega) only [li_0, li_1, li_2, li_3, li_4, li_5, li_6, li_7, li_8, li_9, li_10, li_12, li_13, li_14, li_15, li_16, li_20, li_24, li_25, li_31, li_32, li_40, li_48, li_54, li_56, li_64, li_72, li_97, li_99, li_100, li_112, li_122, li_144, li_145, li_155, li_157, li_200, li_216, li_255, li_256, li_432, li_437, li_438, li_462, li_463, li_713, li_900, li_940, lL_0, lL_1, lL_255, lL_1099511627776, neg_1, ltT, ltF, leT, leF, eqT, eqF, ltMT, ltMF, leMT, leMF, eqMF, eqMF', addM, inbT, clp, nI_add, subN, pk_mul, nzT, remN, shl1, bitN, bit0, bit1, lcE, lcLE, lcLT, LleT, LleF, LltT, LltF, LeqT, LeqF, ↓bndS, ↓bnvS, ↓lt_s1, bndS, bnvS, eq_self, ↓reduceIte, m5, ItoL, A0, A2]
            · have A0 := A (lN 0) (by rw [if_neg hz])
              simp (disch := omega) only [li_0, li_1, li_2, li_3, li_4, li_5, li_6, li_7, li_8, li_9, li_10, li_12, li_13, li_14, li_15, li_16, li_20, li_24, li_25, li_31, li_32, li_40, li_48, li_54, li_56, li_64, li_72, li_97, li_99, li_100, li_112, li_122, li_144, li_145, li_155, li_157, li_200, li_216, li_255, li_256, li_432, li_437, li_438, li_462, li_463, li_713, li_900, li_940, lL_0, lL_1, lL_255, lL_1099511627776, neg_1, ltT, ltF, leT, leF, eqT, eqF, ltMT, ltMF, leMT, leMF, eqMF, eqMF', addM, inbT, clp, nI_add, subN, pk_mul, nzT, remN, shl1, bitN, bit0, bit1, lcE, lcLE, lcLT, LleT, LleF, LltT, LltF, LeqT, LeqF, ↓bndS, ↓bnvS, ↓lt_s1, bndS, bnvS, eq_self, ↓reduceIte, A0, A2, ItoL]
          · by_cases h1 : o = k
            · subst h1; exact sL_s
            · rw [sL_nk1 (by omega)]; exact p4 o (by omega)) g ⟨Same.rf, rfl, fun _ _ => rfl, fun o ho => by omega⟩ (by omega)
      refine ⟨g', ?_, q1.tr r1, r2.trans q2, fun j hj o ho => ?_⟩
      · unfold F_X13_countTorn_2
        rw [if_neg (nI_ge hi (by omega)), li_0, li_1, nI_add, e]
      · by_cases h1 : j = i
        · subst h1; exact r4 o ho
        · rw [r3 _ (by omega)]; exact q3 j (by omega) o ho) h ⟨Same.rf, rfl, fun j hj => by omega⟩ (by omega)
  have B1 := B.same s1 (by decide)
  refine ⟨h1, ?_, s1, s2⟩
  unfold f_X13_countTorn
  rw [li_0, lL_0, e1]
  refine sq3 5 (fun k => lN (sm (fun k => σ (10 + k) * tT σ l n k) k)) (fun k => nI k) (fun _ => h1) (fun self => ?_) (fun self k hk => ?_) (by omega) rfl rfl rfl
  · unfold F_X13_countTorn_181
    simp (disch := omega) only [li_0, li_1, li_2, li_3, li_4, li_5, li_6, li_7, li_8, li_9, li_10, li_12, li_13, li_14, li_15, li_16, li_20, li_24, li_25, li_31, li_32, li_40, li_48, li_54, li_56, li_64, li_72, li_97, li_99, li_100, li_112, li_122, li_144, li_145, li_155, li_157, li_200, li_216, li_255, li_256, li_432, li_437, li_438, li_462, li_463, li_713, li_900, li_940, lL_0, lL_1, lL_255, lL_1099511627776, neg_1, ltT, ltF, leT, leF, eqT, eqF, ltMT, ltMF, leMT, leMF, eqMF, eqMF', addM, inbT, clp, nI_add, subN, pk_mul, nzT, remN, shl1, bitN, bit0, bit1, lcE, lcLE, lcLT, LleT, LleF, LltT, LltF, LeqT, LeqF, ↓bndS, ↓bnvS, ↓lt_s1, bndS, bnvS, eq_self, ↓reduceIte]
    rfl
  · have f1 := H.2.1 (10 + k) (by omega) (by omega)
    have m1 := B1.1 (10 + k) (by omega)
    have w1 := s3 (n - 1) (by omega) k hk
    rw [show n - 1 + 1 = n by omega] at w1
    have es : sm (fun k => σ (10 + k) * tT σ l n k) (k + 1) = sm (fun k => σ (10 + k) * tT σ l n k) k + σ (10 + k) * tT σ l n k := rfl
    unfold F_X13_countTorn_181
    rw [es, mul01 f1]
    by_cases h1 : σ (10 + k) = 1
    · simp (disch := omega) only [li_0, li_1, li_2, li_3, li_4, li_5, li_6, li_7, li_8, li_9, li_10, li_12, li_13, li_14, li_15, li_16, li_20, li_24, li_25, li_31, li_32, li_40, li_48, li_54, li_56, li_64, li_72, li_97, li_99, li_100, li_112, li_122, li_144, li_145, li_155, li_157, li_200, li_216, li_255, li_256, li_432, li_437, li_438, li_462, li_463, li_713, li_900, li_940, lL_0, lL_1, lL_255, lL_1099511627776, neg_1, ltT, ltF, leT, leF, eqT, eqF, ltMT, ltMF, leMT, leMF, eqMF, eqMF', addM, inbT, clp, nI_add, subN, pk_mul, nzT, remN, shl1, bitN, bit0, bit1, lcE, lcLE, lcLT, LleT, LleF, LltT, LltF, LeqT, LeqF, ↓bndS, ↓bnvS, ↓lt_s1, bndS, bnvS, eq_self, ↓reduceIte, m1, h1, w1, lN_add]
    · simp (disch := omega) only [li_0, li_1, li_2, li_3, li_4, li_5, li_6, li_7, li_8, li_9, li_10, li_12, li_13, li_14, li_15, li_16, li_20, li_24, li_25, li_31, li_32, li_40, li_48, li_54, li_56, li_64, li_72, li_97, li_99, li_100, li_112, li_122, li_144, li_145, li_155, li_157, li_200, li_216, li_255, li_256, li_432, li_437, li_438, li_462, li_463, li_713, li_900, li_940, lL_0, lL_1, lL_255, lL_1099511627776, neg_1, ltT, ltF, leT, leF, eqT, eqF, ltMT, ltMF, leMT, leMF, eqMF, eqMF', addM, inbT, clp, nI_add, subN, pk_mul, nzT, remN, shl1, bitN, bit0, bit1, lcE, lcLE, lcLT, LleT, LleF, LltT, LltF, LeqT, LeqF, ↓bndS, ↓bnvS, ↓lt_s1, bndS, bnvS, eq_self, ↓reduceIte, m1, h1, lN_add]
end TORN8
