section TORN2
variable {σ : Nat → Nat} {nm : Nat → List Nat} {h h' : Hp}
theorem isO87 : (isO 8 7 = true) = True := eq_true (by decide)
/-- the class's Tear while it looks -/
def TB (σ : Nat → Nat) (nm : Nat → List Nat) (l : Nat → Option Nat) (n : Nat) (h : Hp) : Prop :=
  TgRep h 7 σ nm ∧ h.2.2 133 7 = 7 ∧ h.1 133 9 = nI n ∧ ∀ i, i < n → h.1 136 i = lI (l i)
def LtOk (l : Nat → Option Nat) : Prop := ∀ i v, l i = some v → v < 8
theorem TB.same {l : Nat → Option Nat} {n : Nat} (B : TB σ nm l n h) (s : Same [137, 138, 139] h h') : TB σ nm l n h' := by
  obtain ⟨a, b, c, d⟩ := B
  refine ⟨a.kept (fun q h1 h2 => ?_), ?_, ?_, ?_⟩
  · have := s q (by simp only [List.mem_cons, List.not_mem_nil, or_false]; omega)
    exact ⟨this.1, this.2.1⟩
  · rw [(s 133 (by decide)).2.2]; exact b
  · rw [(s 133 (by decide)).1]; exact c
  · rw [(s 136 (by decide)).1]; exact d
theorem lI_n {p : Option Nat} {w : Nat} (hp : ∀ v, p = some v → v < 8) (hw : w < 8) : (lI p = -1) = (p = none) ∧ (p ≠ none → (lI p = nI w) = (may p w = true)) := by
  cases p with
  | none => exact ⟨by rw [eq_self]; exact eq_true rfl, fun z => absurd rfl z⟩
  | some v =>
    have v8 := hp v rfl
    refine ⟨?_, fun _ => ?_⟩
    · rw [show (some v = none) = False from eq_false (fun z => by cases z)]
      refine eq_false (fun z => ?_)
      have : nI v = mI 1 := z
      have e := eqMF (a := 1) (b := v) (by omega) (by omega) (by omega)
      rw [e] at this
      exact this
    · show (nI v = nI w) = (decide (v = w) = true)
      rw [decide_eq_true_eq]
      exact propext (nI_eq (by omega) (by omega))
theorem c_mayStandAt {l : Nat → Option Nat} {n i w : Nat} (B : TB σ nm l n h) (hL : LtOk l) (hi : i < n) (hn : n ≤ 12) (hw : w < 8) : f_X8_mayStandAt (nI i) (nI w) h = some (nI (may (l i) w).toNat, h) := by
  have e := B.2.2.2 i hi
  obtain ⟨e1, e2⟩ := lI_n (p := l i) (w := w) (hL i) hw
  unfold f_X8_mayStandAt
  rw [if_pos (inb_nI (by omega) (by decide)), clp (by omega), e]
  by_cases h1 : l i = none
  · rw [if_pos (e1.mpr h1), h1]; rfl
  · rw [if_neg (fun z => h1 (e1.mp z)), if_pos (inb_nI (by omega) (by decide))]
    cases h2 : may (l i) w
    · rw [if_neg (fun z => by have := (e2 h1).mp z; rw [h2] at this; cases this)]; rfl
    · rw [if_pos ((e2 h1).mpr h2)]; rfl
theorem c_madeT {w k x : Nat} (T : TgRep h 7 σ nm) (hw : w < 8) (hk : k < 5) (hx : x < 8) (hr : σ (72 + 5 * w + k) = 1) : f_X10_made 7 (nI w) (nI k) (nI x) h = some (nI (σ (112 + 8 * (5 * w + k) + x)), h) := by
  have e := T.2.2.2.2.2.2.1 ((w * 5 + k) * 8 + x) (by omega)
  unfold mk at e
  rw [show ((w * 5 + k) * 8 + x) / 8 = 5 * w + k by omega, show 72 + (5 * w + k) = 72 + 5 * w + k by omega, if_pos hr, show 112 + ((w * 5 + k) * 8 + x) = 112 + 8 * (5 * w + k) + x by omega] at e
  unfold f_X10_made
  simp (disch := omega) only [li_0, li_1, li_2, li_3, li_4, li_5, li_6, li_7, li_8, li_9, li_10, li_12, li_13, li_14, li_15, li_16, li_20, li_24, li_25, li_31, li_32, li_40, li_48, li_54, li_56, li_64, li_72, li_97, li_99, li_100, li_112, li_122, li_144, li_145, li_155, li_157, li_200, li_216, li_255, li_256, li_432, li_437, li_438, li_462, li_463, li_713, li_900, li_940, lL_0, lL_1, lL_255, lL_1099511627776, neg_1, ltT, ltF, leT, leF, eqT, eqF, ltMT, ltMF, leMT, leMF, eqMF, eqMF', addM, inbT, clp, nI_add, subN, pk_mul, nzT, remN, shl1, bitN, bit0, bit1, lcE, lcLE, lcLT, LleT, LleF, LltT, LltF, LeqT, LeqF, ↓bndS, ↓bnvS, ↓lt_s1, bndS, bnvS, eq_self, ↓reduceIte, e, show ((320 : Int32)) = nI 320 from rfl]
theorem c_countW15 {w k : Nat} {c cp : Nat → Nat → Nat} (T : TgRep h 7 σ nm) (h7 : h.2.2 133 7 = 7) (H : TgOk σ nm) (hw : w < 8) (hk : k < 5) (hc : ∀ o, o < 6 → ∀ m, m < 8 → h.2.1 137 (o * 8 + m) = lN (c o m)) (ha : ∀ x, x < 8 → h.2.1 138 (k * 8 + x) = lN (cA σ cp k x)) (kk : Hp → Option Hp) : ∃ h', itr2 (F_X8_countWith_15 (nI w) (nI k) kk) N0 (nI 0) h = kk h' ∧ Same [137] h h' ∧ h'.1 = h.1 ∧ ∀ o, o < 6 → ∀ m, m < 8 → h'.2.1 137 (o * 8 + m) = lN (c o m + if o = k then sm (fun x => cX σ cp k m w x) 8 else 0) := by
  by_cases hr : σ (72 + 5 * w + k) = 1
  · obtain ⟨h', e, s1, s2, s3⟩ := loop2n (F := F_X8_countWith_15 (nI w) (nI k) kk) (k := kk) 8 (fun i g => Same [137] h g ∧ g.1 = h.1 ∧ ∀ o, o < 6 → ∀ m, m < 8 → g.2.1 137 (o * 8 + m) = lN (c o m + if o = k then sm (fun x => cX σ cp k m w x) i else 0)) (fun self g _ => by
        unfold F_X8_countWith_15
        simp (disch := omega) only [li_0, li_1, li_2, li_3, li_4, li_5, li_6, li_7, li_8, li_9, li_10, li_12, li_13, li_14, li_15, li_16, li_20, li_24, li_25, li_31, li_32, li_40, li_48, li_54, li_56, li_64, li_72, li_97, li_99, li_100, li_112, li_122, li_144, li_145, li_155, li_157, li_200, li_216, li_255, li_256, li_432, li_437, li_438, li_462, li_463, li_713, li_900, li_940, lL_0, lL_1, lL_255, lL_1099511627776, neg_1, ltT, ltF, leT, leF, eqT, eqF, ltMT, ltMF, leMT, leMF, eqMF, eqMF', addM, inbT, clp, nI_add, subN, pk_mul, nzT, remN, shl1, bitN, bit0, bit1, lcE, lcLE, lcLT, LleT, LleF, LltT, LltF, LeqT, LeqF, ↓bndS, ↓bnvS, ↓lt_s1, bndS, bnvS, eq_self, ↓reduceIte]) (fun self i g hi ⟨q1, q2, q3⟩ => by
        have Tg : TgRep g 7 σ nm := T.kept (fun a h1 h2 => by
          have := q1 a (by simp only [List.mem_cons, List.not_mem_nil, or_false]; omega)
          exact ⟨this.1, this.2.1⟩)
        have g7 : g.2.2 133 7 = 7 := by rw [(q1 133 (by decide)).2.2]; exact h7
        have ra := c_readsAs Tg H hw hk
        have ma := c_madeT Tg hw hk hi hr
        have m8 := H.2.2.2.2.2.2.1 (8 * (5 * w + k) + i) (by omega)
        rw [show 112 + (8 * (5 * w + k) + i) = 112 + 8 * (5 * w + k) + i by omega] at m8
        have a1 : g.2.1 138 (k * 8 + i) = lN (cA σ cp k i) := by rw [(q1 138 (by decide)).2.1]; exact ha i hi
        have a2 := q3 k (by omega) _ m8
        refine ⟨sL g 137 (k * 8 + σ (112 + 8 * (5 * w + k) + i)) (lN (c k (σ (112 + 8 * (5 * w + k) + i)) + (if k = k then sm (fun x => cX σ cp k (σ (112 + 8 * (5 * w + k) + i)) w x) i else 0)) + lN (cA σ cp k i)), ?_, q1.tr (Same.ofL (by decide)), q2, fun o ho m hm => ?_⟩
        · unfold F_X8_countWith_15
          simp (disch := omega) only [li_0, li_1, li_2, li_3, li_4, li_5, li_6, li_7, li_8, li_9, li_10, li_12, li_13, li_14, li_15, li_16, li_20, li_24, li_25, li_31, li_32, li_40, li_48, li_54, li_56, li_64, li_72, li_97, li_99, li_100, li_112, li_122, li_144, li_145, li_155, li_157, li_200, li_216, li_255, li_256, li_432, li_437, li_438, li_462, li_463, li_713, li_900, li_940, lL_0, lL_1, lL_255, lL_1099511627776, neg_1, ltT, ltF, leT, leF, eqT, eqF, ltMT, ltMF, leMT, leMF, eqMF, eqMF', addM, inbT, clp, nI_add, subN, pk_mul, nzT, remN, shl1, bitN, bit0, bit1, lcE, lcLE, lcLT, LleT, LleF, LltT, LltF, LeqT, LeqF, ↓bndS, ↓bnvS, ↓lt_s1, bndS, bnvS, eq_self, ↓reduceIte, g7, isO87, ra, hr, decide_true, Bool.true_eq_false, ma, a1, a2]
        · by_cases h1 : o * 8 + m = k * 8 + σ (112 + 8 * (5 * w + k) + i)
          · have h2 : o = k := by omega
            have h3 : m = σ (112 + 8 * (5 * w + k) + i) := by omega
            subst h2
            rw [h1, sL_s, lN_add, ← h3, if_pos rfl, if_pos rfl]
            show _ = lN (c o m + (sm (fun x => cX σ cp o m w x) i + cX σ cp o m w i))
            rw [show cX σ cp o m w i = cA σ cp o i from if_pos ⟨hr, h3.symm⟩, Nat.add_assoc]
          · rw [sL_nk1 h1, q3 o ho m hm]
            by_cases h2 : o = k
            · rw [if_pos h2, if_pos h2]
              show _ = lN (c o m + (sm (fun x => cX σ cp k m w x) i + cX σ cp k m w i))
              rw [show cX σ cp k m w i = 0 from if_neg (fun z => h1 (by rw [h2, z.2])), Nat.add_zero]
            · rw [if_neg h2, if_neg h2]) h ⟨Same.rf, rfl, fun o ho m hm => by rw [hc o ho m hm]; congr 1; by_cases h2 : o = k <;> simp [h2, sm]⟩ (by omega)
    exact ⟨h', e, s1, s2, s3⟩
  · refine ⟨h, ?_, Same.rf, rfl, fun o ho m hm => ?_⟩
    · have ra := c_readsAs T H hw hk
      refine sq2 0 (fun i => nI i) (fun _ => h) (fun self => ?_) (fun self i hi => by omega) (by omega) rfl rfl
      unfold F_X8_countWith_15
      simp (disch := omega) only [li_0, li_1, li_2, li_3, li_4, li_5, li_6, li_7, li_8, li_9, li_10, li_12, li_13, li_14, li_15, li_16, li_20, li_24, li_25, li_31, li_32, li_40, li_48, li_54, li_56, li_64, li_72, li_97, li_99, li_100, li_112, li_122, li_144, li_145, li_155, li_157, li_200, li_216, li_255, li_256, li_432, li_437, li_438, li_462, li_463, li_713, li_900, li_940, lL_0, lL_1, lL_255, lL_1099511627776, neg_1, ltT, ltF, leT, leF, eqT, eqF, ltMT, ltMF, leMT, leMF, eqMF, eqMF', addM, inbT, clp, nI_add, subN, pk_mul, nzT, remN, shl1, bitN, bit0, bit1, lcE, lcLE, lcLT, LleT, LleF, LltT, LltF, LeqT, LeqF, ↓bndS, ↓bnvS, ↓lt_s1, bndS, bnvS, eq_self, ↓reduceIte, h7, isO87, ra, hr, decide_false]
    · rw [hc o ho m hm, sm_zero (f := fun x => cX σ cp k m w x) 8 (fun x _ => if_neg (fun z => hr z.1)), ite_self, Nat.add_zero]
theorem c_countWithT {w : Nat} {c cp : Nat → Nat → Nat} (T : TgRep h 7 σ nm) (h7 : h.2.2 133 7 = 7) (H : TgOk σ nm) (hw : w < 8) (hc : ∀ o, o < 6 → ∀ m, m < 8 → h.2.1 137 (o * 8 + m) = lN (c o m)) (ha : ∀ k, k < 5 → ∀ x, x < 8 → h.2.1 138 (k * 8 + x) = lN (cA σ cp k x)) : ∃ h', f_X8_countWith (nI w) h = some h' ∧ Same [137] h h' ∧ h'.1 = h.1 ∧ ∀ o, o < 6 → ∀ m, m < 8 → h'.2.1 137 (o * 8 + m) = lN (c o m + if o < 5 then sm (fun x => cX σ cp o m w x) 8 else 0) := by
  have s5 := H.1.1
  obtain ⟨h', e, s1, s2, s3⟩ := loop2n (F := F_X8_countWith_2 (nI w) (fun h19 => some h19)) (k := fun h19 => some h19) (σ 0) (fun k g => Same [137] h g ∧ g.1 = h.1 ∧ ∀ o, o < 6 → ∀ m, m < 8 → g.2.1 137 (o * 8 + m) = lN (c o m + if o < k then sm (fun x => cX σ cp o m w x) 8 else 0)) (fun self g ⟨q1, q2, q3⟩ => by
      have g7 : g.2.2 133 7 = 7 := by rw [(q1 133 (by decide)).2.2]; exact h7
      have g0 : g.1 7 0 = nI (σ 0) := by rw [q2]; exact T.1.1
      unfold F_X8_countWith_2
      simp (disch := omega) only [li_0, li_1, li_2, li_3, li_4, li_5, li_6, li_7, li_8, li_9, li_10, li_12, li_13, li_14, li_15, li_16, li_20, li_24, li_25, li_31, li_32, li_40, li_48, li_54, li_56, li_64, li_72, li_97, li_99, li_100, li_112, li_122, li_144, li_145, li_155, li_157, li_200, li_216, li_255, li_256, li_432, li_437, li_438, li_462, li_463, li_713, li_900, li_940, lL_0, lL_1, lL_255, lL_1099511627776, neg_1, ltT, ltF, leT, leF, eqT, eqF, ltMT, ltMF, leMT, leMF, eqMF, eqMF', addM, inbT, clp, nI_add, subN, pk_mul, nzT, remN, shl1, bitN, bit0, bit1, lcE, lcLE, lcLT, LleT, LleF, LltT, LltF, LeqT, LeqF, ↓bndS, ↓bnvS, ↓lt_s1, bndS, bnvS, eq_self, ↓reduceIte, g7, isO87, g0]) (fun self k g hk ⟨q1, q2, q3⟩ => by
      have g7 : g.2.2 133 7 = 7 := by rw [(q1 133 (by decide)).2.2]; exact h7
      have g0 : g.1 7 0 = nI (σ 0) := by rw [q2]; exact T.1.1
      have Tg : TgRep g 7 σ nm := T.kept (fun a h1 h2 => by
        have := q1 a (by simp only [List.mem_cons, List.not_mem_nil, or_false]; omega)
        exact ⟨this.1, this.2.1⟩)
      obtain ⟨g', e, r1, r2, r3⟩ := c_countW15 (k := k) Tg g7 H hw (by omega) q3 (fun x hx => by rw [(q1 138 (by decide)).2.1]; exact ha k (by omega) x hx) (fun h18 => self (nI k + nI 1) h18)
      refine ⟨g', ?_, q1.tr r1, r2.trans q2, fun o ho m hm => ?_⟩
      · unfold F_X8_countWith_2
        simp (disch := omega) only [li_0, li_1, li_2, li_3, li_4, li_5, li_6, li_7, li_8, li_9, li_10, li_12, li_13, li_14, li_15, li_16, li_20, li_24, li_25, li_31, li_32, li_40, li_48, li_54, li_56, li_64, li_72, li_97, li_99, li_100, li_112, li_122, li_144, li_145, li_155, li_157, li_200, li_216, li_255, li_256, li_432, li_437, li_438, li_462, li_463, li_713, li_900, li_940, lL_0, lL_1, lL_255, lL_1099511627776, neg_1, ltT, ltF, leT, leF, eqT, eqF, ltMT, ltMF, leMT, leMF, eqMF, eqMF', addM, inbT, clp, nI_add, subN, pk_mul, nzT, remN, shl1, bitN, bit0, bit1, lcE, lcLE, lcLT, LleT, LleF, LltT, LltF, LeqT, LeqF, ↓bndS, ↓bnvS, ↓lt_s1, bndS, bnvS, eq_self, ↓reduceIte, g7, isO87, g0]
        rw [nI_add] at e
        exact e
      · rw [r3 o ho m hm]
        congr 1
        by_cases h2 : o = k
        · subst h2
          rw [if_pos rfl, if_neg (Nat.lt_irrefl _), if_pos (by omega), Nat.add_zero]
        · rw [if_neg h2, Nat.add_zero]
          by_cases h3 : o < k
          · rw [if_pos h3, if_pos (by omega)]
          · rw [if_neg h3, if_neg (by omega)]) h ⟨Same.rf, rfl, fun o ho m hm => by rw [hc o ho m hm, if_neg (Nat.not_lt_zero _), Nat.add_zero]⟩ (by omega)
  refine ⟨h', ?_, s1, s2, fun o ho m hm => ?_⟩
  · unfold f_X8_countWith
    rw [li_0]
    exact e
  · rw [s3 o ho m hm]
    by_cases h1 : o < σ 0
    · rw [if_pos h1, if_pos (by omega)]
    · rw [if_neg h1]
      by_cases h2 : o < 5
      · have z := (H.2.2.1 o (by omega) h2).2.2.2 w hw
        rw [if_pos h2, sm_zero (f := fun x => cX σ cp o m w x) 8 (fun x _ => if_neg (fun q => by rw [z] at q; exact absurd q.1 (by decide)))]
      · rw [if_neg h2]
theorem c_sumAhead30 {k o : Nat} {c : Nat → Nat → Nat} {a : Nat → Nat → Nat} (T : TgRep h 7 σ nm) (h7 : h.2.2 133 7 = 7) (H : TgOk σ nm) (hk : k < 5) (ho : o < 6) (hc : ∀ o, o < 6 → ∀ m, m < 8 → h.2.1 137 (o * 8 + m) = lN (c o m)) (ha : ∀ k, k < 5 → ∀ x, x < 8 → h.2.1 138 (k * 8 + x) = lN (a k x)) (kk : Hp → Option Hp) : ∃ h', itr2 (F_X8_sumWhatIsAhead_30 (nI k) (nI o) kk) N0 (nI 0) h = kk h' ∧ Same [138] h h' ∧ h'.1 = h.1 ∧ ∀ j, j < 5 → ∀ x, x < 8 → h'.2.1 138 (j * 8 + x) = lN (a j x + if j = k then fol σ o k * c o x else 0) := by
  have f1 := H.fl (o := o) ho hk
  by_cases hr : fol σ o k = 1
  · obtain ⟨h', e, s1, s2, s3⟩ := loop2n (F := F_X8_sumWhatIsAhead_30 (nI k) (nI o) kk) (k := kk) 8 (fun i g => Same [138] h g ∧ g.1 = h.1 ∧ ∀ j, j < 5 → ∀ x, x < 8 → g.2.1 138 (j * 8 + x) = lN (a j x + if j = k ∧ x < i then c o x else 0)) (fun self g _ => by
        unfold F_X8_sumWhatIsAhead_30
        simp (disch := omega) only [li_0, li_1, li_2, li_3, li_4, li_5, li_6, li_7, li_8, li_9, li_10, li_12, li_13, li_14, li_15, li_16, li_20, li_24, li_25, li_31, li_32, li_40, li_48, li_54, li_56, li_64, li_72, li_97, li_99, li_100, li_112, li_122, li_144, li_145, li_155, li_157, li_200, li_216, li_255, li_256, li_432, li_437, li_438, li_462, li_463, li_713, li_900, li_940, lL_0, lL_1, lL_255, lL_1099511627776, neg_1, ltT, ltF, leT, leF, eqT, eqF, ltMT, ltMF, leMT, leMF, eqMF, eqMF', addM, inbT, clp, nI_add, subN, pk_mul, nzT, remN, shl1, bitN, bit0, bit1, lcE, lcLE, lcLT, LleT, LleF, LltT, LltF, LeqT, LeqF, ↓bndS, ↓bnvS, ↓lt_s1, bndS, bnvS, eq_self, ↓reduceIte]) (fun self i g hi ⟨q1, q2, q3⟩ => by
        have Tg : TgRep g 7 σ nm := T.kept (fun a h1 h2 => by
          have := q1 a (by simp only [List.mem_cons, List.not_mem_nil, or_false]; omega)
          exact ⟨this.1, this.2.1⟩)
        have g7 : g.2.2 133 7 = 7 := by rw [(q1 133 (by decide)).2.2]; exact h7
        have mf := c_mayFollow Tg H ho hk
        have a1 : g.2.1 137 (o * 8 + i) = lN (c o i) := by rw [(q1 137 (by decide)).2.1]; exact hc o ho i hi
        have a2 := q3 k hk i hi
        rw [if_neg (fun z => Nat.lt_irrefl _ z.2), Nat.add_zero] at a2
        refine ⟨sL g 138 (k * 8 + i) (lN (a k i) + lN (c o i)), ?_, q1.tr (Same.ofL (by decide)), q2, fun j hj x hx => ?_⟩
        · unfold F_X8_sumWhatIsAhead_30
          simp (disch := omega) only [li_0, li_1, li_2, li_3, li_4, li_5, li_6, li_7, li_8, li_9, li_10, li_12, li_13, li_14, li_15, li_16, li_20, li_24, li_25, li_31, li_32, li_40, li_48, li_54, li_56, li_64, li_72, li_97, li_99, li_100, li_112, li_122, li_144, li_145, li_155, li_157, li_200, li_216, li_255, li_256, li_432, li_437, li_438, li_462, li_463, li_713, li_900, li_940, lL_0, lL_1, lL_255, lL_1099511627776, neg_1, ltT, ltF, leT, leF, eqT, eqF, ltMT, ltMF, leMT, leMF, eqMF, eqMF', addM, inbT, clp, nI_add, subN, pk_mul, nzT, remN, shl1, bitN, bit0, bit1, lcE, lcLE, lcLT, LleT, LleF, LltT, LltF, LeqT, LeqF, ↓bndS, ↓bnvS, ↓lt_s1, bndS, bnvS, eq_self, ↓reduceIte, g7, isO87, mf, hr, decide_true, Bool.true_eq_false, a1, a2]
        · by_cases h1 : j * 8 + x = k * 8 + i
          · have h2 : j = k := by omega
            have h3 : x = i := by omega
            subst h2 h3
            rw [sL_s, lN_add, if_pos ⟨rfl, by omega⟩]
          · rw [sL_nk1 h1, q3 j hj x hx]
            congr 2
            by_cases h2 : j = k ∧ x < i
            · rw [if_pos h2, if_pos ⟨h2.1, by omega⟩]
            · rw [if_neg h2, if_neg (fun z => h2 ⟨z.1, by have := z.1; subst this; omega⟩)]) h ⟨Same.rf, rfl, fun j hj x hx => by rw [ha j hj x hx, if_neg (fun z => Nat.not_lt_zero _ z.2), Nat.add_zero]⟩ (by omega)
    refine ⟨h', e, s1, s2, fun j hj x hx => ?_⟩
    rw [s3 j hj x hx, hr, Nat.one_mul]
    congr 2
    by_cases h2 : j = k
    · rw [if_pos h2, if_pos ⟨h2, hx⟩]
    · rw [if_neg h2, if_neg (fun z => h2 z.1)]
  · refine ⟨h, ?_, Same.rf, rfl, fun j hj x hx => ?_⟩
    · have mf := c_mayFollow T H ho hk
      refine sq2 0 (fun i => nI i) (fun _ => h) (fun self => ?_) (fun self i hi => by omega) (by omega) rfl rfl
      unfold F_X8_sumWhatIsAhead_30
      simp (disch := omega) only [li_0, li_1, li_2, li_3, li_4, li_5, li_6, li_7, li_8, li_9, li_10, li_12, li_13, li_14, li_15, li_16, li_20, li_24, li_25, li_31, li_32, li_40, li_48, li_54, li_56, li_64, li_72, li_97, li_99, li_100, li_112, li_122, li_144, li_145, li_155, li_157, li_200, li_216, li_255, li_256, li_432, li_437, li_438, li_462, li_463, li_713, li_900, li_940, lL_0, lL_1, lL_255, lL_1099511627776, neg_1, ltT, ltF, leT, leF, eqT, eqF, ltMT, ltMF, leMT, leMF, eqMF, eqMF', addM, inbT, clp, nI_add, subN, pk_mul, nzT, remN, shl1, bitN, bit0, bit1, lcE, lcLE, lcLT, LleT, LleF, LltT, LltF, LeqT, LeqF, ↓bndS, ↓bnvS, ↓lt_s1, bndS, bnvS, eq_self, ↓reduceIte, h7, isO87, mf, hr, decide_false]
    · rw [ha j hj x hx, show fol σ o k = 0 by omega, Nat.zero_mul, ite_self, Nat.add_zero]
theorem c_sumAhead23 {k : Nat} {c : Nat → Nat → Nat} {a : Nat → Nat → Nat} (T : TgRep h 7 σ nm) (h7 : h.2.2 133 7 = 7) (H : TgOk σ nm) (hk : k < 5) (hc : ∀ o, o < 6 → ∀ m, m < 8 → h.2.1 137 (o * 8 + m) = lN (c o m)) (ha : ∀ k, k < 5 → ∀ x, x < 8 → h.2.1 138 (k * 8 + x) = lN (a k x)) (kk : Hp → Option Hp) : ∃ h', itr2 (F_X8_sumWhatIsAhead_23 (nI k) kk) N0 (nI 0) h = kk h' ∧ Same [138] h h' ∧ h'.1 = h.1 ∧ ∀ j, j < 5 → ∀ x, x < 8 → h'.2.1 138 (j * 8 + x) = lN (a j x + if j = k then cA σ c k x else 0) := by
  obtain ⟨h', e, s1, s2, s3⟩ := loop2n (F := F_X8_sumWhatIsAhead_23 (nI k) kk) (k := kk) 6 (fun o g => Same [138] h g ∧ g.1 = h.1 ∧ ∀ j, j < 5 → ∀ x, x < 8 → g.2.1 138 (j * 8 + x) = lN (a j x + if j = k then sm (fun o => fol σ o k * c o x) o else 0)) (fun self g _ => by
      unfold F_X8_sumWhatIsAhead_23
      simp (disch := omega) only [li_0, li_1, li_2, li_3, li_4, li_5, li_6, li_7, li_8, li_9, li_10, li_12, li_13, li_14, li_15, li_16, li_20, li_24, li_25, li_31, li_32, li_40, li_48, li_54, li_56, li_64, li_72, li_97, li_99, li_100, li_112, li_122, li_144, li_145, li_155, li_157, li_200, li_216, li_255, li_256, li_432, li_437, li_438, li_462, li_463, li_713, li_900, li_940, lL_0, lL_1, lL_255, lL_1099511627776, neg_1, ltT, ltF, leT, leF, eqT, eqF, ltMT, ltMF, leMT, leMF, eqMF, eqMF', addM, inbT, clp, nI_add, subN, pk_mul, nzT, remN, shl1, bitN, bit0, bit1, lcE, lcLE, lcLT, LleT, LleF, LltT, LltF, LeqT, LeqF, ↓bndS, ↓bnvS, ↓lt_s1, bndS, bnvS, eq_self, ↓reduceIte]) (fun self o g ho ⟨q1, q2, q3⟩ => by
      have g7 : g.2.2 133 7 = 7 := by rw [(q1 133 (by decide)).2.2]; exact h7
      have Tg : TgRep g 7 σ nm := T.kept (fun a h1 h2 => by
        have := q1 a (by simp only [List.mem_cons, List.not_mem_nil, or_false]; omega)
        exact ⟨this.1, this.2.1⟩)
      obtain ⟨g', e, r1, r2, r3⟩ := c_sumAhead30 (o := o) Tg g7 H hk ho (fun o ho m hm => by rw [(q1 137 (by decide)).2.1]; exact hc o ho m hm) q3 (fun h16 => self (nI o + nI 1) h16)
      refine ⟨g', ?_, q1.tr r1, r2.trans q2, fun j hj x hx => ?_⟩
      · unfold F_X8_sumWhatIsAhead_23
        simp (disch := omega) only [li_0, li_1, li_2, li_3, li_4, li_5, li_6, li_7, li_8, li_9, li_10, li_12, li_13, li_14, li_15, li_16, li_20, li_24, li_25, li_31, li_32, li_40, li_48, li_54, li_56, li_64, li_72, li_97, li_99, li_100, li_112, li_122, li_144, li_145, li_155, li_157, li_200, li_216, li_255, li_256, li_432, li_437, li_438, li_462, li_463, li_713, li_900, li_940, lL_0, lL_1, lL_255, lL_1099511627776, neg_1, ltT, ltF, leT, leF, eqT, eqF, ltMT, ltMF, leMT, leMF, eqMF, eqMF', addM, inbT, clp, nI_add, subN, pk_mul, nzT, remN, shl1, bitN, bit0, bit1, lcE, lcLE, lcLT, LleT, LleF, LltT, LltF, LeqT, LeqF, ↓bndS, ↓bnvS, ↓lt_s1, bndS, bnvS, eq_self, ↓reduceIte]
        rw [nI_add] at e
        exact e
      · rw [r3 j hj x hx]
        by_cases h2 : j = k
        · rw [if_pos h2, if_pos h2, if_pos h2, Nat.add_assoc]
          rfl
        · rw [if_neg h2, if_neg h2, if_neg h2, Nat.add_zero]) h ⟨Same.rf, rfl, fun j hj x hx => by rw [ha j hj x hx]; congr 1; by_cases h2 : j = k <;> simp [h2, sm]⟩ (by omega)
  exact ⟨h', e, s1, s2, s3⟩
theorem aln138 : aln 138 = 40 := by decide
theorem aln137 : aln 137 = 48 := by decide
theorem aln139 : aln 139 = 78 := by decide
theorem c_sumAhead {c : Nat → Nat → Nat} (T : TgRep h 7 σ nm) (h7 : h.2.2 133 7 = 7) (H : TgOk σ nm) (hc : ∀ o, o < 6 → ∀ m, m < 8 → h.2.1 137 (o * 8 + m) = lN (c o m)) : ∃ h', f_X8_sumWhatIsAhead h = some h' ∧ Same [138] h h' ∧ h'.1 = h.1 ∧ ∀ k, k < 5 → ∀ x, x < 8 → h'.2.1 138 (k * 8 + x) = lN (cA σ c k x) := by
  have s5 := H.1.1
  obtain ⟨h0, e0, t1, t2, t3⟩ := c_fillL (h := h) (a := 138) (v := 0) (by rw [aln138]; omega)
  rw [aln138] at t3
  have T0 : TgRep h0 7 σ nm := T.kept (fun a h1 h2 => by
    have := t1 a (by simp only [List.mem_cons, List.not_mem_nil, or_false]; omega)
    exact ⟨this.1, this.2.1⟩)
  obtain ⟨h', e, s1, s2, s3⟩ := loop2n (F := F_X8_sumWhatIsAhead_10 (fun h18 => some h18)) (k := fun h18 => some h18) (σ 0) (fun k g => Same [138] h0 g ∧ g.1 = h0.1 ∧ ∀ j, j < 5 → ∀ x, x < 8 → g.2.1 138 (j * 8 + x) = lN (if j < k then cA σ c j x else 0)) (fun self g ⟨q1, q2, q3⟩ => by
      have g7 : g.2.2 133 7 = 7 := by rw [(q1 133 (by decide)).2.2, (t1 133 (by decide)).2.2]; exact h7
      have g0 : g.1 7 0 = nI (σ 0) := by rw [q2]; exact T0.1.1
      unfold F_X8_sumWhatIsAhead_10
      simp (disch := omega) only [li_0, li_1, li_2, li_3, li_4, li_5, li_6, li_7, li_8, li_9, li_10, li_12, li_13, li_14, li_15, li_16, li_20, li_24, li_25, li_31, li_32, li_40, li_48, li_54, li_56, li_64, li_72, li_97, li_99, li_100, li_112, li_122, li_144, li_145, li_155, li_157, li_200, li_216, li_255, li_256, li_432, li_437, li_438, li_462, li_463, li_713, li_900, li_940, lL_0, lL_1, lL_255, lL_1099511627776, neg_1, ltT, ltF, leT, leF, eqT, eqF, ltMT, ltMF, leMT, leMF, eqMF, eqMF', addM, inbT, clp, nI_add, subN, pk_mul, nzT, remN, shl1, bitN, bit0, bit1, lcE, lcLE, lcLT, LleT, LleF, LltT, LltF, LeqT, LeqF, ↓bndS, ↓bnvS, ↓lt_s1, bndS, bnvS, eq_self, ↓reduceIte, g7, isO87, g0]) (fun self k g hk ⟨q1, q2, q3⟩ => by
      have g7 : g.2.2 133 7 = 7 := by rw [(q1 133 (by decide)).2.2, (t1 133 (by decide)).2.2]; exact h7
      have g0 : g.1 7 0 = nI (σ 0) := by rw [q2]; exact T0.1.1
      have Tg : TgRep g 7 σ nm := T0.kept (fun a h1 h2 => by
        have := q1 a (by simp only [List.mem_cons, List.not_mem_nil, or_false]; omega)
        exact ⟨this.1, this.2.1⟩)
      obtain ⟨g', e, r1, r2, r3⟩ := c_sumAhead23 (k := k) (c := c) Tg g7 H (by omega) (fun o ho m hm => by rw [(q1 137 (by decide)).2.1, (t1 137 (by decide)).2.1]; exact hc o ho m hm) q3 (fun h16 => self (nI k + nI 1) h16)
      refine ⟨g', ?_, q1.tr r1, r2.trans q2, fun j hj x hx => ?_⟩
      · unfold F_X8_sumWhatIsAhead_10
        simp (disch := omega) only [li_0, li_1, li_2, li_3, li_4, li_5, li_6, li_7, li_8, li_9, li_10, li_12, li_13, li_14, li_15, li_16, li_20, li_24, li_25, li_31, li_32, li_40, li_48, li_54, li_56, li_64, li_72, li_97, li_99, li_100, li_112, li_122, li_144, li_145, li_155, li_157, li_200, li_216, li_255, li_256, li_432, li_437, li_438, li_462, li_463, li_713, li_900, li_940, lL_0, lL_1, lL_255, lL_1099511627776, neg_1, ltT, ltF, leT, leF, eqT, eqF, ltMT, ltMF, leMT, leMF, eqMF, eqMF', addM, inbT, clp, nI_add, subN, pk_mul, nzT, remN, shl1, bitN, bit0, bit1, lcE, lcLE, lcLT, LleT, LleF, LltT, LltF, LeqT, LeqF, ↓bndS, ↓bnvS, ↓lt_s1, bndS, bnvS, eq_self, ↓reduceIte, g7, isO87, g0]
        rw [nI_add] at e
        exact e
      · rw [r3 j hj x hx]
        congr 1
        by_cases h2 : j = k
        · subst h2
          rw [if_pos rfl, if_neg (Nat.lt_irrefl _), if_pos (by omega), Nat.zero_add]
        · rw [if_neg h2, Nat.add_zero]
          by_cases h3 : j < k
          · rw [if_pos h3, if_pos (by omega)]
          · rw [if_neg h3, if_neg (by omega)]) h0 ⟨Same.rf, rfl, fun j hj x hx => by rw [t3 _ (by omega), if_neg (Nat.not_lt_zero _)]; rfl⟩ (by omega)
  refine ⟨h', ?_, t1.tr s1, s2.trans t2, fun k hk x hx => ?_⟩
  · unfold f_X8_sumWhatIsAhead
    rw [e0, bnvS, li_0]
    exact e
  · rw [s3 k hk x hx]
    by_cases h1 : k < σ 0
    · rw [if_pos h1]
    · rw [if_neg h1]
      have z := (H.2.2.1 k (by omega) hk)
      unfold cA
      rw [sm_zero 6 (fun o ho => ?_)]
      have : fol σ o k = 0 := by
        unfold fol
        by_cases h5 : o = 5
        · rw [if_pos h5]; exact z.1
        · rw [if_neg h5]; exact (z.2.2.1 o (by omega)).1
      rw [this, Nat.zero_mul]
end TORN2
