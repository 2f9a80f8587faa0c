section MEANS
variable {tp : List Nat} {σ : Nat → Nat} {nm : Nat → List Nat} {K : Im} {fd : List Nat} {fl : Nat} {tn : Option Tn} {h h' : Hp}
/-- what a row means -/
def run (σ : Nat → Nat) (l : List Nat) : Nat := l.foldl (stp σ) 1099511627776
def mean (σ : Nat → Nat) (l : List Nat) : Nat := mnt σ (run σ l)
theorem run_snoc (l : List Nat) (w : Nat) : run σ (l ++ [w]) = stp σ (run σ l) w := by
  unfold run
  rw [List.foldl_append, List.foldl_cons, List.foldl_nil]
theorem loop2n {β : Type} {F : (Int32 → Hp → Option β) → Int32 → Hp → Option β} {k : Hp → Option β} (n : Nat) (P : Nat → Hp → Prop) (hx : ∀ self h, P n h → F self (nI n) h = k h) (hs : ∀ self i h, i < n → P i h → ∃ h', F self (nI i) h = self (nI (i + 1)) h' ∧ P (i + 1) h') (h : Hp) (h0 : P 0 h) (hn : n ≤ 1000000) : ∃ h', itr2 F N0 (nI 0) h = k h' ∧ P n h' := by
  have := loop2 n P hx hs h h0 hn
  rw [li_0] at this
  exact this
theorem loop3n {A β : Type} {F : (A → Int32 → Hp → Option β) → A → Int32 → Hp → Option β} {k : A → Hp → Option β} (n : Nat) (P : Nat → A → Hp → Prop) (hx : ∀ self a h, P n a h → F self a (nI n) h = k a h) (hs : ∀ self i a h, i < n → P i a h → ∃ a' h', F self a (nI i) h = self a' (nI (i + 1)) h' ∧ P (i + 1) a' h') (a : A) (h : Hp) (h0 : P 0 a h) (hn : n ≤ 1000000) : ∃ a' h', itr3 F N0 a (nI 0) h = k a' h' ∧ P n a' h' := by
  have := loop3 n P hx hs a h h0 hn
  rw [li_0] at this
  exact this
theorem run_le (H : TgOk σ nm) {l : List Nat} (hl : ∀ x ∈ l, x < 8) : run σ l ≤ 1099511627776 := by
  have key : ∀ (l : List Nat) (X : Nat), (∀ x ∈ l, x < 8) → X ≤ 1099511627776 → l.foldl (stp σ) X ≤ 1099511627776 := by
    intro l
    induction l with
    | nil => intro X _ hX; exact hX
    | cons w l ih => intro X hl hX; exact ih _ (fun x hx => hl x (List.mem_cons_of_mem _ hx)) (Nat.le_of_lt (stp_lt H (hl w (List.mem_cons_self ..))))
  exact key l _ hl (Nat.le_refl _)
theorem mst_stp (H : TgOk σ nm) {X w : Nat} (hw : w < 8) : lN (stp σ X w) = mst (stp σ X w) := by
  have := stp_lt (X := X) H hw
  unfold mst
  rw [if_neg (by omega)]
theorem m_has {a k : Nat} (ha : a < 2147483648) (hk : k < 32) : f_X13_has (nI a) (nI k) h = some (nI (a.testBit k).toNat, h) := by
  unfold f_X13_has
  cases hb : a.testBit k
  · simp (disch := omega) only [li_0, li_1, li_2, li_3, li_4, li_5, li_6, li_7, li_8, li_9, li_10, li_12, li_13, li_14, li_15, li_16, li_20, li_24, li_25, li_31, li_32, li_40, li_48, li_54, li_56, li_64, li_72, li_97, li_99, li_100, li_112, li_122, li_144, li_145, li_155, li_157, li_200, li_216, li_255, li_256, li_432, li_437, li_438, li_462, li_463, li_713, li_900, li_940, lL_0, lL_1, lL_255, lL_1099511627776, neg_1, ltT, ltF, leT, leF, eqT, eqF, ltMT, ltMF, leMT, leMF, eqMF, eqMF', addM, inbT, clp, nI_add, subN, pk_mul, nzT, remN, shl1, bitN, bit0, bit1, lcE, lcLE, lcLT, LleT, LleF, LltT, LltF, LeqT, LeqF, ↓bndS, ↓bnvS, ↓lt_s1, bndS, bnvS, eq_self, ↓reduceIte, hb, Bool.false_eq_true]
    rfl
  · simp (disch := omega) only [li_0, li_1, li_2, li_3, li_4, li_5, li_6, li_7, li_8, li_9, li_10, li_12, li_13, li_14, li_15, li_16, li_20, li_24, li_25, li_31, li_32, li_40, li_48, li_54, li_56, li_64, li_72, li_97, li_99, li_100, li_112, li_122, li_144, li_145, li_155, li_157, li_200, li_216, li_255, li_256, li_432, li_437, li_438, li_462, li_463, li_713, li_900, li_940, lL_0, lL_1, lL_255, lL_1099511627776, neg_1, ltT, ltF, leT, leF, eqT, eqF, ltMT, ltMF, leMT, leMF, eqMF, eqMF', addM, inbT, clp, nI_add, subN, pk_mul, nzT, remN, shl1, bitN, bit0, bit1, lcE, lcLE, lcLT, LleT, LleF, LltT, LltF, LeqT, LeqF, ↓bndS, ↓bnvS, ↓lt_s1, bndS, bnvS, eq_self, ↓reduceIte, hb]
    rfl
theorem img_ors {k s : Nat} (hs : s < 256) : ors (fun m => if s.testBit m then 2 ^ σ (112 + 8 * k + m) else 0) 8 = img σ k s := by
  have t1 : ∀ m, m < 4 → (s % 16).testBit m = s.testBit m := fun m hm => by
    rw [show (16 : Nat) = 2 ^ 4 from rfl, Nat.testBit_mod_two_pow]
    simp [hm]
  have t2 : ∀ m, (s / 16).testBit m = s.testBit (4 + m) := fun m => by
    rw [show (16 : Nat) = 2 ^ 4 from rfl, Nat.testBit_div_two_pow, Nat.add_comm]
  unfold img img4
  rw [t1 0 (by omega), t1 1 (by omega), t1 2 (by omega), t1 3 (by omega), t2 0, t2 1, t2 2, t2 3]
  simp only [ors, Nat.zero_or, ← Nat.or_assoc, Nat.add_assoc, Nat.add_zero, Nat.reduceAdd]
/-- settled: the cache is that of the TONGUE -/
def MS (σ : Nat → Nat) (h : Hp) : Prop := h.1 155 25 = nI (σ 3) ∧ h.1 155 26 = nI (σ 4) ∧ Cache σ h
theorem m_settle3 (H : TgOk σ nm) {q : Hp} {i j : Nat} (hi : i < 40) (hj : j < 256) (sq : ∀ k, k < 713 → q.1 157 k = nI (σ k)) (k : Int32 → Hp → Option Hp) : itr3 (F_X13_settle_99 (nI i) (nI j) k) N0 (nI 0) (nI 0) q = k (nI (img σ i j)) q := by
  refine sq3 8 (fun m => nI (ors (fun m => if j.testBit m then 2 ^ σ (112 + 8 * i + m) else 0) m)) (fun m => nI m) (fun _ => q) (fun self => ?_) (fun self m hm => ?_) (by omega) rfl rfl rfl
  · unfold F_X13_settle_99
    simp (disch := omega) only [li_0, li_1, li_2, li_3, li_4, li_5, li_6, li_7, li_8, li_9, li_10, li_12, li_13, li_14, li_15, li_16, li_20, li_24, li_25, li_31, li_32, li_40, li_48, li_54, li_56, li_64, li_72, li_97, li_99, li_100, li_112, li_122, li_144, li_145, li_155, li_157, li_200, li_216, li_255, li_256, li_432, li_437, li_438, li_462, li_463, li_713, li_900, li_940, lL_0, lL_1, lL_255, lL_1099511627776, neg_1, ltT, ltF, leT, leF, eqT, eqF, ltMT, ltMF, leMT, leMF, eqMF, eqMF', addM, inbT, clp, nI_add, subN, pk_mul, nzT, remN, shl1, bitN, bit0, bit1, lcE, lcLE, lcLT, LleT, LleF, LltT, LltF, LeqT, LeqF, ↓bndS, ↓bnvS, ↓lt_s1, bndS, bnvS, eq_self, ↓reduceIte]
    rw [img_ors hj]
  · have b8 := H.2.2.2.2.2.2.1 (8 * i + m) (by omega)
    rw [show 112 + (8 * i + m) = 112 + 8 * i + m by omega] at b8
    have os : ors (fun m => if j.testBit m then 2 ^ σ (112 + 8 * i + m) else 0) (m + 1) = ors (fun m => if j.testBit m then 2 ^ σ (112 + 8 * i + m) else 0) m ||| (if j.testBit m then 2 ^ σ (112 + 8 * i + m) else 0) := rfl
    unfold F_X13_settle_99
    rw [os]
    cases hb : j.testBit m
    · simp (disch := omega) only [li_0, li_1, li_2, li_3, li_4, li_5, li_6, li_7, li_8, li_9, li_10, li_12, li_13, li_14, li_15, li_16, li_20, li_24, li_25, li_31, li_32, li_40, li_48, li_54, li_56, li_64, li_72, li_97, li_99, li_100, li_112, li_122, li_144, li_145, li_155, li_157, li_200, li_216, li_255, li_256, li_432, li_437, li_438, li_462, li_463, li_713, li_900, li_940, lL_0, lL_1, lL_255, lL_1099511627776, neg_1, ltT, ltF, leT, leF, eqT, eqF, ltMT, ltMF, leMT, leMF, eqMF, eqMF', addM, inbT, clp, nI_add, subN, pk_mul, nzT, remN, shl1, bitN, bit0, bit1, lcE, lcLE, lcLT, LleT, LleF, LltT, LltF, LeqT, LeqF, ↓bndS, ↓bnvS, ↓lt_s1, bndS, bnvS, eq_self, ↓reduceIte, m_has, hb, Bool.false_eq_true, Nat.or_zero]
    · simp (disch := omega) only [li_0, li_1, li_2, li_3, li_4, li_5, li_6, li_7, li_8, li_9, li_10, li_12, li_13, li_14, li_15, li_16, li_20, li_24, li_25, li_31, li_32, li_40, li_48, li_54, li_56, li_64, li_72, li_97, li_99, li_100, li_112, li_122, li_144, li_145, li_155, li_157, li_200, li_216, li_255, li_256, li_432, li_437, li_438, li_462, li_463, li_713, li_900, li_940, lL_0, lL_1, lL_255, lL_1099511627776, neg_1, ltT, ltF, leT, leF, eqT, eqF, ltMT, ltMF, leMT, leMF, eqMF, eqMF', addM, inbT, clp, nI_add, subN, pk_mul, nzT, remN, shl1, bitN, bit0, bit1, lcE, lcLE, lcLT, LleT, LleF, LltT, LltF, LeqT, LeqF, ↓bndS, ↓bnvS, ↓lt_s1, bndS, bnvS, eq_self, ↓reduceIte, m_has, hb, Bool.true_eq_false, sq, fa_or]
theorem m_settle2 (H : TgOk σ nm) {g g0 : Hp} {i : Nat} (hi : i < 40) (s0 : ∀ k, k < 713 → g0.1 157 k = nI (σ k)) (k : Hp → Option Hp) : ∃ q, itr2 (F_X13_settle_87 (nI i) k) N0 (nI 0) g0 = k q ∧ (Same [164] g0 q ∧ q.2 = g0.2) ∧ ∀ a, q.1 164 a = if 256 * i ≤ a ∧ a < 256 * i + 256 then nI (img σ i (a - 256 * i)) else g0.1 164 a := by
  refine loop2n (F := F_X13_settle_87 (nI i) k) (k := k) 256 (fun j q => (Same [164] g0 q ∧ q.2 = g0.2) ∧ ∀ a, q.1 164 a = if 256 * i ≤ a ∧ a < 256 * i + j then nI (img σ i (a - 256 * i)) else g0.1 164 a) (fun self g _ => ?_) (fun self j q hj ⟨⟨r1, r0⟩, r2⟩ => ?_) g0 ⟨⟨Same.rf, rfl⟩, fun a => by rw [if_neg (by omega)]⟩ (by omega)
  · unfold F_X13_settle_87
    simp (disch := omega) only [li_0, li_1, li_2, li_3, li_4, li_5, li_6, li_7, li_8, li_9, li_10, li_12, li_13, li_14, li_15, li_16, li_20, li_24, li_25, li_31, li_32, li_40, li_48, li_54, li_56, li_64, li_72, li_97, li_99, li_100, li_112, li_122, li_144, li_145, li_155, li_157, li_200, li_216, li_255, li_256, li_432, li_437, li_438, li_462, li_463, li_713, li_900, li_940, lL_0, lL_1, lL_255, lL_1099511627776, neg_1, ltT, ltF, leT, leF, eqT, eqF, ltMT, ltMF, leMT, leMF, eqMF, eqMF', addM, inbT, clp, nI_add, subN, pk_mul, nzT, remN, shl1, bitN, bit0, bit1, lcE, lcLE, lcLT, LleT, LleF, LltT, LltF, LeqT, LeqF, ↓bndS, ↓bnvS, ↓lt_s1, bndS, bnvS, eq_self, ↓reduceIte]
  · have sq : ∀ k, k < 713 → q.1 157 k = nI (σ k) := fun k hk => by rw [(r1 157 (by decide)).1]; exact s0 k hk
    refine ⟨sI q 164 (256 * i + j) (nI (img σ i j)), ?_, ⟨r1.tr (Same.ofI (by decide)), r0⟩, fun a => ?_⟩
    · unfold F_X13_settle_87
      simp (disch := omega) only [li_0, li_1, li_2, li_3, li_4, li_5, li_6, li_7, li_8, li_9, li_10, li_12, li_13, li_14, li_15, li_16, li_20, li_24, li_25, li_31, li_32, li_40, li_48, li_54, li_56, li_64, li_72, li_97, li_99, li_100, li_112, li_122, li_144, li_145, li_155, li_157, li_200, li_216, li_255, li_256, li_432, li_437, li_438, li_462, li_463, li_713, li_900, li_940, lL_0, lL_1, lL_255, lL_1099511627776, neg_1, ltT, ltF, leT, leF, eqT, eqF, ltMT, ltMF, leMT, leMF, eqMF, eqMF', addM, inbT, clp, nI_add, subN, pk_mul, nzT, remN, shl1, bitN, bit0, bit1, lcE, lcLE, lcLT, LleT, LleF, LltT, LltF, LeqT, LeqF, ↓bndS, ↓bnvS, ↓lt_s1, bndS, bnvS, eq_self, ↓reduceIte, m_settle3 H hi hj sq]
    · rw [sI1]
      by_cases ha : a = 256 * i + j
      · subst ha
        rw [if_pos ⟨rfl, rfl⟩, if_pos (by omega)]
        congr 2
        omega
      · rw [if_neg (fun z => ha z.2), r2 a]
        by_cases hb : 256 * i ≤ a ∧ a < 256 * i + j
        · rw [if_pos hb, if_pos (by omega)]
        · rw [if_neg hb, if_neg (by omega)]
theorem m_settle1 (H : TgOk σ nm) {h9 : Hp} (s9 : ∀ k, k < 713 → h9.1 157 k = nI (σ k)) : ∃ g, itr2 (F_X13_settle_64 (fun h26 => some h26)) N0 (nI 0) h9 = some g ∧ (Same [164, 165] h9 g ∧ g.2 = h9.2) ∧ (∀ k, k < 40 → g.1 165 k = nI (σ (72 + k))) ∧ ∀ k, k < 40 → ∀ set, set < 256 → g.1 164 (256 * k + set) = nI (img σ k set) := by
  refine loop2n (F := F_X13_settle_64 (fun h26 => some h26)) (k := fun h26 => some h26) 40 (fun i g => (Same [164, 165] h9 g ∧ g.2 = h9.2) ∧ (∀ k, k < i → g.1 165 k = nI (σ (72 + k))) ∧ ∀ k, k < i → ∀ set, set < 256 → g.1 164 (256 * k + set) = nI (img σ k set)) (fun self g _ => ?_) (fun self i g hi ⟨⟨p1, p0⟩, p2, p3⟩ => ?_) h9 ⟨⟨Same.rf, rfl⟩, fun k hk => by omega, fun k hk => by omega⟩ (by omega)
  · unfold F_X13_settle_64
    simp (disch := omega) only [li_0, li_1, li_2, li_3, li_4, li_5, li_6, li_7, li_8, li_9, li_10, li_12, li_13, li_14, li_15, li_16, li_20, li_24, li_25, li_31, li_32, li_40, li_48, li_54, li_56, li_64, li_72, li_97, li_99, li_100, li_112, li_122, li_144, li_145, li_155, li_157, li_200, li_216, li_255, li_256, li_432, li_437, li_438, li_462, li_463, li_713, li_900, li_940, lL_0, lL_1, lL_255, lL_1099511627776, neg_1, ltT, ltF, leT, leF, eqT, eqF, ltMT, ltMF, leMT, leMF, eqMF, eqMF', addM, inbT, clp, nI_add, subN, pk_mul, nzT, remN, shl1, bitN, bit0, bit1, lcE, lcLE, lcLT, LleT, LleF, LltT, LltF, LeqT, LeqF, ↓bndS, ↓bnvS, ↓lt_s1, bndS, bnvS, eq_self, ↓reduceIte]
  · have sg : ∀ k, k < 713 → g.1 157 k = nI (σ k) := fun k hk => by rw [(p1 157 (by decide)).1]; exact s9 k hk
    have sg2 : ∀ k, k < 713 → (sI g 165 i (nI (σ (72 + i)))).1 157 k = nI (σ k) := fun k hk => by rw [sI_ne1 (by decide)]; exact sg k hk
    obtain ⟨q, e, ⟨q1, q0⟩, q2⟩ := m_settle2 H (g := g) hi sg2 (fun h25 => self (nI (i + 1)) h25)
    refine ⟨q, ?_, ⟨p1.tr (((Same.ofI (X := [164, 165]) (by decide))).tr (q1.mono (fun q hq => by simp only [List.mem_cons, List.not_mem_nil, or_false] at hq ⊢; omega))), q0.trans p0⟩, fun k hk => ?_, fun k hk set hset => ?_⟩
    · unfold F_X13_settle_64
      simp (disch := omega) only [li_0, li_1, li_2, li_3, li_4, li_5, li_6, li_7, li_8, li_9, li_10, li_12, li_13, li_14, li_15, li_16, li_20, li_24, li_25, li_31, li_32, li_40, li_48, li_54, li_56, li_64, li_72, li_97, li_99, li_100, li_112, li_122, li_144, li_145, li_155, li_157, li_200, li_216, li_255, li_256, li_432, li_437, li_438, li_462, li_463, li_713, li_900, li_940, lL_0, lL_1, lL_255, lL_1099511627776, neg_1, ltT, ltF, leT, leF, eqT, eqF, ltMT, ltMF, leMT, leMF, eqMF, eqMF', addM, inbT, clp, nI_add, subN, pk_mul, nzT, remN, shl1, bitN, bit0, bit1, lcE, lcLE, lcLT, LleT, LleF, LltT, LltF, LeqT, LeqF, ↓bndS, ↓bnvS, ↓lt_s1, bndS, bnvS, eq_self, ↓reduceIte, sg]
      rw [e]
    · rw [(q1 165 (by decide)).1]
      by_cases hk2 : k = i
      · subst hk2
        rw [sI_s]
      · rw [sI_nk1 hk2]
        exact p2 k (by omega)
    · rw [q2]
      by_cases hk2 : k = i
      · subst hk2
        rw [if_pos (by omega)]
        congr 2
        omega
      · rw [if_neg (by omega), sI_ne1 (by decide)]
        exact p3 k (by omega) set hset
theorem m_settle0 {h4 : Hp} (z6 : ∀ k, k < 713 → h4.1 157 k = nI (σ k)) (k : Hp → Option Hp) : ∃ g, itr2 (F_X13_settle_35 k) N0 (nI 0) h4 = k g ∧ (Same [166] h4 g ∧ g.2 = h4.2) ∧ ∀ k, k < 25 → g.1 166 k = nI (σ (15 + k)) := by
  refine loop2n (F := F_X13_settle_35 k) (k := k) 25 (fun i g => (Same [166] h4 g ∧ g.2 = h4.2) ∧ ∀ k, k < i → g.1 166 k = nI (σ (15 + k))) (fun self g _ => ?_) (fun self i g hi ⟨⟨r1, r0⟩, r2⟩ => ?_) h4 ⟨⟨Same.rf, rfl⟩, fun k hk => by omega⟩ (by omega)
  · unfold F_X13_settle_35
    simp (disch := omega) only [li_0, li_1, li_2, li_3, li_4, li_5, li_6, li_7, li_8, li_9, li_10, li_12, li_13, li_14, li_15, li_16, li_20, li_24, li_25, li_31, li_32, li_40, li_48, li_54, li_56, li_64, li_72, li_97, li_99, li_100, li_112, li_122, li_144, li_145, li_155, li_157, li_200, li_216, li_255, li_256, li_432, li_437, li_438, li_462, li_463, li_713, li_900, li_940, lL_0, lL_1, lL_255, lL_1099511627776, neg_1, ltT, ltF, leT, leF, eqT, eqF, ltMT, ltMF, leMT, leMF, eqMF, eqMF', addM, inbT, clp, nI_add, subN, pk_mul, nzT, remN, shl1, bitN, bit0, bit1, lcE, lcLE, lcLT, LleT, LleF, LltT, LltF, LeqT, LeqF, ↓bndS, ↓bnvS, ↓lt_s1, bndS, bnvS, eq_self, ↓reduceIte]
  · have sg : ∀ k, k < 713 → g.1 157 k = nI (σ k) := fun k hk => by rw [(r1 157 (by decide)).1]; exact z6 k hk
    refine ⟨sI g 166 i (nI (σ (15 + i))), ?_, ⟨r1.tr (Same.ofI (by decide)), r0⟩, fun k hk => ?_⟩
    · unfold F_X13_settle_35
      simp (disch := omega) only [li_0, li_1, li_2, li_3, li_4, li_5, li_6, li_7, li_8, li_9, li_10, li_12, li_13, li_14, li_15, li_16, li_20, li_24, li_25, li_31, li_32, li_40, li_48, li_54, li_56, li_64, li_72, li_97, li_99, li_100, li_112, li_122, li_144, li_145, li_155, li_157, li_200, li_216, li_255, li_256, li_432, li_437, li_438, li_462, li_463, li_713, li_900, li_940, lL_0, lL_1, lL_255, lL_1099511627776, neg_1, ltT, ltF, leT, leF, eqT, eqF, ltMT, ltMF, leMT, leMF, eqMF, eqMF', addM, inbT, clp, nI_add, subN, pk_mul, nzT, remN, shl1, bitN, bit0, bit1, lcE, lcLE, lcLT, LleT, LleF, LltT, LltF, LeqT, LeqF, ↓bndS, ↓bnvS, ↓lt_s1, bndS, bnvS, eq_self, ↓reduceIte, sg]
    · by_cases hk2 : k = i
      · subst hk2
        rw [sI_s]
      · rw [sI_nk1 hk2]
        exact r2 k (by omega)
theorem m_settleA (ms : ∀ k, k < 713 → h.1 157 k = nI (σ k)) (h31 : h.1 155 31 = nI 0) : f_X13_settle h = some (sI (sI h 155 25 (nI (σ 3))) 155 26 (nI (σ 4))) := by
  unfold f_X13_settle
  rw [lt_s0, lt_s0, if_pos]
  · simp (disch := omega) only [li_0, li_1, li_2, li_3, li_4, li_5, li_6, li_7, li_8, li_9, li_10, li_12, li_13, li_14, li_15, li_16, li_20, li_24, li_25, li_31, li_32, li_40, li_48, li_54, li_56, li_64, li_72, li_97, li_99, li_100, li_112, li_122, li_144, li_145, li_155, li_157, li_200, li_216, li_255, li_256, li_432, li_437, li_438, li_462, li_463, li_713, li_900, li_940, lL_0, lL_1, lL_255, lL_1099511627776, neg_1, ltT, ltF, leT, leF, eqT, eqF, ltMT, ltMF, leMT, leMF, eqMF, eqMF', addM, inbT, clp, nI_add, subN, pk_mul, nzT, remN, shl1, bitN, bit0, bit1, lcE, lcLE, lcLT, LleT, LleF, LltT, LltF, LeqT, LeqF, ↓bndS, ↓bnvS, ↓lt_s1, bndS, bnvS, eq_self, ↓reduceIte, ms, sI_nk1, sI_ne1, h31]
  · simp (disch := omega) only [li_0, li_1, li_2, li_3, li_4, li_5, li_6, li_7, li_8, li_9, li_10, li_12, li_13, li_14, li_15, li_16, li_20, li_24, li_25, li_31, li_32, li_40, li_48, li_54, li_56, li_64, li_72, li_97, li_99, li_100, li_112, li_122, li_144, li_145, li_155, li_157, li_200, li_216, li_255, li_256, li_432, li_437, li_438, li_462, li_463, li_713, li_900, li_940, lL_0, lL_1, lL_255, lL_1099511627776, neg_1, ltT, ltF, leT, leF, eqT, eqF, ltMT, ltMF, leMT, leMF, eqMF, eqMF', addM, inbT, clp, nI_add, subN, pk_mul, nzT, remN, shl1, bitN, bit0, bit1, lcE, lcLE, lcLT, LleT, LleF, LltT, LltF, LeqT, LeqF, ↓bndS, ↓bnvS, ↓lt_s1, bndS, bnvS, eq_self, ↓reduceIte, ms, sI_nk1, sI_ne1, h31]
theorem m_settleB (ms : ∀ k, k < 713 → h.1 157 k = nI (σ k)) (h31 : ¬ h.1 155 31 = nI 0) : f_X13_settle h = itr2 (F_X13_settle_35 (fun h9 => itr2 (F_X13_settle_64 (fun h26 => some h26)) N0 (nI 0) h9)) N0 (nI 0) (sI (sI (sI h 155 25 (nI (σ 3))) 155 26 (nI (σ 4))) 155 31 (nI 0)) := by
  have e1 : ∀ g : Hp, itr2 (F_X13_settle_35 (fun h9 => itr2 (F_X13_settle_64 (fun h26 => some h26)) N0 0 h9)) N0 0 g = itr2 (F_X13_settle_35 (fun h9 => itr2 (F_X13_settle_64 (fun h26 => some h26)) N0 (nI 0) h9)) N0 (nI 0) g := fun g => by rw [li_0]
  have e2 : sI (sI (sI h 155 25 (h.1 157 ((3 : Int32).toNatClampNeg))) 155 26 ((sI h 155 25 (h.1 157 ((3 : Int32).toNatClampNeg))).1 157 ((4 : Int32).toNatClampNeg))) 155 31 0 = sI (sI (sI h 155 25 (nI (σ 3))) 155 26 (nI (σ 4))) 155 31 (nI 0) := by
    simp (disch := omega) only [li_0, li_1, li_2, li_3, li_4, li_5, li_6, li_7, li_8, li_9, li_10, li_12, li_13, li_14, li_15, li_16, li_20, li_24, li_25, li_31, li_32, li_40, li_48, li_54, li_56, li_64, li_72, li_97, li_99, li_100, li_112, li_122, li_144, li_145, li_155, li_157, li_200, li_216, li_255, li_256, li_432, li_437, li_438, li_462, li_463, li_713, li_900, li_940, lL_0, lL_1, lL_255, lL_1099511627776, neg_1, ltT, ltF, leT, leF, eqT, eqF, ltMT, ltMF, leMT, leMF, eqMF, eqMF', addM, inbT, clp, nI_add, subN, pk_mul, nzT, remN, shl1, bitN, bit0, bit1, lcE, lcLE, lcLT, LleT, LleF, LltT, LltF, LeqT, LeqF, ↓bndS, ↓bnvS, ↓lt_s1, bndS, bnvS, eq_self, ↓reduceIte, ms, sI_nk1, sI_ne1]
  unfold f_X13_settle
  rw [lt_s0, lt_s0, if_neg, lt_s0, e1, e2]
  simp (disch := omega) only [li_0, li_1, li_2, li_3, li_4, li_5, li_6, li_7, li_8, li_9, li_10, li_12, li_13, li_14, li_15, li_16, li_20, li_24, li_25, li_31, li_32, li_40, li_48, li_54, li_56, li_64, li_72, li_97, li_99, li_100, li_112, li_122, li_144, li_145, li_155, li_157, li_200, li_216, li_255, li_256, li_432, li_437, li_438, li_462, li_463, li_713, li_900, li_940, lL_0, lL_1, lL_255, lL_1099511627776, neg_1, ltT, ltF, leT, leF, eqT, eqF, ltMT, ltMF, leMT, leMF, eqMF, eqMF', addM, inbT, clp, nI_add, subN, pk_mul, nzT, remN, shl1, bitN, bit0, bit1, lcE, lcLE, lcLT, LleT, LleF, LltT, LltF, LeqT, LeqF, ↓bndS, ↓bnvS, ↓lt_s1, bndS, bnvS, eq_self, ↓reduceIte, ms, sI_nk1, sI_ne1, h31, not_false_eq_true]
theorem m_settle (hM : MR tp σ nm K fd fl tn h) (H : TgOk σ nm) : ∃ h', f_X13_settle h = some h' ∧ Same [155, 164, 165, 166] h h' ∧ h'.2 = h.2 ∧ (∀ j, j ≠ 25 → j ≠ 26 → j ≠ 31 → h'.1 155 j = h.1 155 j) ∧ h'.1 155 31 = 0 ∧ MS σ h' := by
  have ms := hM.2.1
  have hst := hM.2.2.2.2.2.2.2.2
  by_cases h31 : h.1 155 31 = nI 0
  · rw [m_settleA ms h31]
    rcases hst with z | ⟨z1, z2⟩
    · rw [z] at h31
      exact absurd h31 (by decide)
    · refine ⟨_, rfl, (Same.ofI (by decide)).tr (Same.ofI (by decide)), rfl, fun j h1 h2 h3 => by rw [sI_nk1 h2, sI_nk1 h1], by rw [sI_nk1 (by decide), sI_nk1 (by decide)]; exact z1, ?_, ?_, ?_⟩
      · rw [sI_nk1 (by decide), sI_s]
      · rw [sI_s]
      · exact z2
  · rw [m_settleB ms h31]
    obtain ⟨h4, e4⟩ : ∃ q, q = sI (sI (sI h 155 25 (nI (σ 3))) 155 26 (nI (σ 4))) 155 31 (nI 0) := ⟨_, rfl⟩
    rw [← e4]
    have z6 : ∀ k, k < 713 → h4.1 157 k = nI (σ k) := fun k hk => by rw [e4, sI_ne1 (by decide), sI_ne1 (by decide), sI_ne1 (by decide)]; exact ms k hk
    obtain ⟨g, e, ⟨p1, p0⟩, p2⟩ := m_settle0 z6 (fun h9 => itr2 (F_X13_settle_64 (fun h26 => some h26)) N0 (nI 0) h9)
    obtain ⟨q, e2, ⟨q1, q0⟩, q2, q3⟩ := m_settle1 H (h9 := g) (fun k hk => by rw [(p1 157 (by decide)).1]; exact z6 k hk)
    refine ⟨q, by rw [e, e2], ?_, ?_, fun j h1 h2 h3 => ?_, ?_, ?_, ?_, ?_, q2, q3⟩
    · refine Same.tr ?_ ((p1.mono (fun q hq => by simp only [List.mem_cons, List.not_mem_nil, or_false] at hq ⊢; omega)).tr (q1.mono (fun q hq => by simp only [List.mem_cons, List.not_mem_nil, or_false] at hq ⊢; omega)))
      rw [e4]
      exact ((Same.ofI (by decide)).tr (Same.ofI (by decide))).tr (Same.ofI (by decide))
    · rw [q0, p0, e4]; rfl
    · rw [(q1 155 (by decide)).1, (p1 155 (by decide)).1, e4, sI_nk1 h3, sI_nk1 h2, sI_nk1 h1]
    · rw [(q1 155 (by decide)).1, (p1 155 (by decide)).1, e4, sI_s]; rfl
    · rw [(q1 155 (by decide)).1, (p1 155 (by decide)).1, e4, sI_nk1 (by decide), sI_nk1 (by decide), sI_s]
    · rw [(q1 155 (by decide)).1, (p1 155 (by decide)).1, e4, sI_nk1 (by decide), sI_s]
    · intro k hk
      rw [(q1 166 (by decide)).1]
      exact p2 k hk
end MEANS
