section C2
variable {tp : List Nat} {σ : Nat → Nat} {nm : Nat → List Nat} {K : Im} {fd : List Nat} {fl : Nat} {tn : Option Tn} {h h' : Hp}
theorem lsI.put {l : List Nat} {a w : Nat} (hl : lsI (h.1 a) l) : lsI ((sI h a l.length (nI w)).1 a) (l ++ [w]) := by
  intro j hj
  rw [List.length_append, List.length_singleton] at hj
  by_cases hj2 : j = l.length
  · subst hj2
    rw [sI_s]
    simp [List.getD_eq_getElem?_getD]
  · rw [sI_nk1 hj2, hl j (by omega)]
    simp [List.getD_eq_getElem?_getD, List.getElem?_append_left (show j < l.length by omega)]
/-- strike: what is left of the TEXT, in row 114 -/
theorem c_strike {b : Nat} (hA : AbOk tp σ nm K fd fl tn) (hC : CR tp σ nm K fd fl tn h) (hb : b < 1000) : ∃ h', f_X3_strike 6 (nI b) h = some (114, h') ∧ h'.1 114 1 = nI (TX σ b).length ∧ lsI (h'.1 115) (TX σ b) ∧ Same [114, 115] h h' := by
  have hS := hA.2.1
  obtain ⟨-, -, -, e3, e3', e4, e4'⟩ := hS.1.1
  have T3 : h.1 9 0 = nI (σ 3) := hC.2.1.1.1.2.2.2.1
  have T4 : h.1 9 1 = nI (σ 4) := hC.2.1.1.1.2.2.2.2
  have r1 : h.1 18 1 = nI (σ 437) := hC.2.1.2.1.1
  have r2 : ∀ k, k < σ 437 → h.1 19 k = nI (σ (438 + k)) := hC.2.1.2.1.2
  have n24 := hS.2.1.1
  have al : aln 115 = 24 := rfl
  have al2 : aln 19 = 24 := rfl
  obtain ⟨h3, e5, p1, p2, p3⟩ := loop2f (F := F_X3_strike_10 6 (nI b) (fun h8 => some (114, h8))) (k := fun h8 => some (114, h8)) 0 (σ 437) (by omega) (fun i g => g.1 114 1 = nI (lf (stk (σ 3) (σ 4) b) (fun i => σ (438 + i)) i).length ∧ lsI (g.1 115) (lf (stk (σ 3) (σ 4) b) (fun i => σ (438 + i)) i) ∧ Same [114, 115] h g) (fun self g ⟨q1, q2, q3⟩ => by
      have g1 : g.1 18 1 = nI (σ 437) := by rw [(q3 18 (by decide)).1]; exact r1
      unfold F_X3_strike_10
      simp (disch := omega) only [li_0, li_1, li_2, li_3, li_4, li_5, li_6, li_7, li_8, li_9, li_10, li_12, li_13, li_14, li_15, li_16, li_20, li_24, li_25, li_31, li_32, li_40, li_48, li_54, li_56, li_64, li_72, li_97, li_99, li_100, li_112, li_122, li_144, li_145, li_155, li_157, li_200, li_216, li_255, li_256, li_432, li_437, li_438, li_462, li_463, li_713, li_900, li_940, lL_0, lL_1, lL_255, lL_1099511627776, neg_1, ltT, ltF, leT, leF, eqT, eqF, ltMT, ltMF, leMT, leMF, eqMF, eqMF', addM, inbT, clp, nI_add, subN, pk_mul, nzT, remN, shl1, bitN, bit0, bit1, lcE, lcLE, lcLT, LleT, LleF, LltT, LltF, LeqT, LeqF, ↓bndS, ↓bnvS, ↓lt_s1, bndS, bnvS, eq_self, ↓reduceIte, g1]) (fun self i g _ hi ⟨q1, q2, q3⟩ => by
      have g1 : g.1 18 1 = nI (σ 437) := by rw [(q3 18 (by decide)).1]; exact r1
      have g2 : g.1 19 i = nI (σ (438 + i)) := by rw [(q3 19 (by decide)).1]; exact r2 i hi
      have s1 := c_strikes (h := g) (x0 := 9) (b := b) (p := i + 1) (by rw [(q3 9 (by decide)).1]; exact T3) (by rw [(q3 9 (by decide)).1]; exact T4) (by omega) (by omega) (by omega) hb (by omega)
      have es : lf (stk (σ 3) (σ 4) b) (fun i => σ (438 + i)) (i + 1) = lf (stk (σ 3) (σ 4) b) (fun i => σ (438 + i)) i ++ (if stk (σ 3) (σ 4) b (i + 1) then [] else [σ (438 + i)]) := rfl
      have ll := lf_len (stk (σ 3) (σ 4) b) (fun i => σ (438 + i)) i
      rw [es]
      cases hc : stk (σ 3) (σ 4) b (i + 1)
      · have rp := row_put (r := 114) (h := g) (v := nI (σ (438 + i))) q1 (by show _ < 24; omega) (by decide)
        refine ⟨_, ?_, ?_, ?_, q3.tr ((Same.ofI (a := 115) (k := (lf (stk (σ 3) (σ 4) b) (fun i => σ (438 + i)) i).length) (v := nI (σ (438 + i))) (by decide)).tr (Same.ofI (a := 114) (k := 1) (v := nI ((lf (stk (σ 3) (σ 4) b) (fun i => σ (438 + i)) i).length + 1)) (by decide)))⟩
        · unfold F_X3_strike_10
          simp (disch := omega) only [li_0, li_1, li_2, li_3, li_4, li_5, li_6, li_7, li_8, li_9, li_10, li_12, li_13, li_14, li_15, li_16, li_20, li_24, li_25, li_31, li_32, li_40, li_48, li_54, li_56, li_64, li_72, li_97, li_99, li_100, li_112, li_122, li_144, li_145, li_155, li_157, li_200, li_216, li_255, li_256, li_432, li_437, li_438, li_462, li_463, li_713, li_900, li_940, lL_0, lL_1, lL_255, lL_1099511627776, neg_1, ltT, ltF, leT, leF, eqT, eqF, ltMT, ltMF, leMT, leMF, eqMF, eqMF', addM, inbT, clp, nI_add, subN, pk_mul, nzT, remN, shl1, bitN, bit0, bit1, lcE, lcLE, lcLT, LleT, LleF, LltT, LltF, LeqT, LeqF, ↓bndS, ↓bnvS, ↓lt_s1, bndS, bnvS, eq_self, ↓reduceIte, g1, s1, hc, al2, g2, rp]
        · rw [sI_s]
          simp
        · simp only [Bool.false_eq_true, ↓reduceIte]
          intro j hj
          rw [sI_ne1 (by decide)]
          exact q2.put j hj
      · refine ⟨g, ?_, ?_, ?_, q3⟩
        · unfold F_X3_strike_10
          simp (disch := omega) only [li_0, li_1, li_2, li_3, li_4, li_5, li_6, li_7, li_8, li_9, li_10, li_12, li_13, li_14, li_15, li_16, li_20, li_24, li_25, li_31, li_32, li_40, li_48, li_54, li_56, li_64, li_72, li_97, li_99, li_100, li_112, li_122, li_144, li_145, li_155, li_157, li_200, li_216, li_255, li_256, li_432, li_437, li_438, li_462, li_463, li_713, li_900, li_940, lL_0, lL_1, lL_255, lL_1099511627776, neg_1, ltT, ltF, leT, leF, eqT, eqF, ltMT, ltMF, leMT, leMF, eqMF, eqMF', addM, inbT, clp, nI_add, subN, pk_mul, nzT, remN, shl1, bitN, bit0, bit1, lcE, lcLE, lcLT, LleT, LleF, LltT, LltF, LeqT, LeqF, ↓bndS, ↓bnvS, ↓lt_s1, bndS, bnvS, eq_self, ↓reduceIte, g1, s1, hc, Bool.true_eq_false]
        · simp only [↓reduceIte, List.append_nil]
          exact q1
        · simp only [↓reduceIte, List.append_nil]
          exact q2) (sI h 114 1 (nI 0)) ⟨sI_s .., (fun i hi => absurd hi (Nat.not_lt_zero _)), Same.ofI (by decide)⟩ (by omega)
  refine ⟨h3, ?_, p1, p2, p3⟩
  unfold f_X3_strike
  rw [lt_s0, li_0, e5]
theorem TX_len (hS : SgOk σ nm) (b : Nat) : (TX σ b).length ≤ 24 := Nat.le_trans (lf_len _ _ _) hS.2.1.1
theorem TX_mem (hS : SgOk σ nm) (b : Nat) : ∀ x ∈ TX σ b, x < σ 2 := lf_mem _ _ _ (fun i hi => by
  have := hS.2.1.2 i hi
  rw [show 437 + 1 + i = 438 + i by omega] at this
  exact this)
theorem CR.scr2 (hA : AbOk tp σ nm K fd fl tn) (H : CR tp σ nm K fd fl tn h) {X : List Nat} (hs : Same X h h') (hX : X.all (fun q => scrL.contains q && decide (q ≠ 123)) = true) : CR tp σ nm K fd fl tn h' := by
  have k : ∀ q ∈ X, q ∈ scrL ∧ q ≠ 123 := fun q hq => by
    have := List.all_eq_true.mp hX q hq
    simp only [Bool.and_eq_true, List.contains_eq_mem, decide_eq_true_eq] at this
    exact this
  refine H.scr hA (fun a _ h2 => ?_) ?_
  · have := hs a (fun z => h2 (k a z).1)
    exact ⟨this.1, this.2.1⟩
  · rw [(hs 123 (fun z => (k 123 z).2 rfl)).1]
    exact H.2.2.2.2.2.2
theorem m_leftT {b : Nat} (hM : MR tp σ nm K fd fl tn h) (hS : SgOk σ nm) (b1 : b ≤ σ 3) : ∃ h', f_X13_leaveText (nI b) h = some h' ∧ h'.1 155 27 = nI (TX σ b).length ∧ lsI (h'.1 162) (TX σ b) ∧ MR tp σ nm K fd fl tn h' ∧ Lo h h' := by
  have e5 := hS.1.1.2.2.2.2.1
  obtain ⟨h2, e2, l1, l2, ⟨l3, l3'⟩, l4, l5, l6⟩ := m_leaveText (b := b) hM.2.1 hS.1 hS.2.1 (by omega)
  have q2 : EqM h h2 := EqM.ofSame l3 (by decide) (fun j hj => l4 j (fun z => by subst z; revert hj; decide) (fun z => by subst z; revert hj; decide) (fun z => by subst z; revert hj; decide)) (by rw [l3'])
  exact ⟨h2, e2, l1, l2, hM.keep q2, l3.lo (by decide)⟩
theorem st_left (x : Int32) (hI : Inv h) : ∃ v h1 h2, f_X12_left x h = some (v, h1) ∧ f_X13_left x h1 = some (v, h2) ∧ Inv h2 := by
  obtain ⟨tp, σ, nm, K, fd, fl, tn, hA, hC, hM⟩ := hI
  have e5 := hA.2.1.1.1.2.2.2.2.1
  have t3 : h.1 9 0 = nI (σ 3) := hC.2.1.1.1.2.2.2.1
  rcases c_begAll x t3 (by omega) with ⟨b, hb, rfl, c1⟩ | ⟨c1, hb⟩
  · obtain ⟨g, s1, s2, s3, s4⟩ := c_strike (b := b) hA hC (by omega)
    have C1 := hC.scr2 hA s4 (by decide)
    have M1 := (hM.hi (s4.hi (by decide))).keep (th_Eq 0)
    obtain ⟨h2, e2, l1, l2, M2, L2⟩ := m_leftT (b := b) M1 hA.2.1 hb
    refine ⟨nI (TX σ b).length, g, h2, ?_, ?_, tp, σ, nm, K, fd, fl, tn, hA, C1.lo hA ((th_Lo 0).tr L2), M2⟩
    · unfold f_X12_left
      rw [c1, bndS, if_neg (by decide), s1, bndS, if_pos (by decide), s2]
    · unfold f_X13_left
      rw [lt_s0, m_begT (M1.2.1 3 (by omega)) (by omega) hb, bndS, if_neg (by decide), e2, bnvS, l1]
  · have M1 := hM.keep (th_Eq 0)
    refine ⟨-1, h, sI h 155 0 0, ?_, ?_, tp, σ, nm, K, fd, fl, tn, hA, hC.lo hA (th_Lo 0), M1⟩
    · unfold f_X12_left
      rw [c1, bndS, if_pos (by decide)]
    · unfold f_X13_left
      rw [lt_s0, m_begF (M1.2.1 3 (by omega)) (by omega) hb, bndS, if_pos (by decide)]
theorem st_leftAt (x y : Int32) (hI : Inv h) : ∃ v h1 h2, f_X12_leftAt x y h = some (v, h1) ∧ f_X13_leftAt x y h1 = some (v, h2) ∧ Inv h2 := by
  obtain ⟨tp, σ, nm, K, fd, fl, tn, hA, hC, hM⟩ := hI
  have e5 := hA.2.1.1.1.2.2.2.2.1
  have t3 : h.1 9 0 = nI (σ 3) := hC.2.1.1.1.2.2.2.1
  rcases c_begAll x t3 (by omega) with ⟨b, hb, rfl, c1⟩ | ⟨c1, hb⟩
  · obtain ⟨g, s1, s2, s3, s4⟩ := c_strike (b := b) hA hC (by omega)
    have C1 := hC.scr2 hA s4 (by decide)
    have M1 := (hM.hi (s4.hi (by decide))).keep (th_Eq 0)
    obtain ⟨h2, e2, l1, l2, M2, L2⟩ := m_leftT (b := b) M1 hA.2.1 hb
    have ln := TX_len hA.2.1 b
    rcases m_isIn0 y (n := (TX σ b).length) h2 (by omega) with ⟨e, q⟩ | ⟨j, q1, rfl, e⟩
    · refine ⟨-1, g, h2, ?_, ?_, tp, σ, nm, K, fd, fl, tn, hA, C1.lo hA ((th_Lo 0).tr L2), M2⟩
      · unfold f_X12_leftAt
        rw [c1, bndS, if_neg (by decide), s1, bndS, if_pos (by decide), row_none s2 q (by omega), bndS]
      · unfold f_X13_leftAt
        rw [lt_s0, m_begT (M1.2.1 3 (by omega)) (by omega) hb, bndS, if_neg (by decide), e2, bnvS, l1, e, bndS, if_pos (by decide)]
    · refine ⟨nI ((TX σ b).getD j 0), g, h2, ?_, ?_, tp, σ, nm, K, fd, fl, tn, hA, C1.lo hA ((th_Lo 0).tr L2), M2⟩
      · unfold f_X12_leftAt
        rw [c1, bndS, if_neg (by decide), s1, bndS, if_pos (by decide), row_at s2 q1 (show _ ≤ 24 from ln) (by decide), bndS, s3 j q1]
      · unfold f_X13_leftAt
        rw [lt_s0, m_begT (M1.2.1 3 (by omega)) (by omega) hb, bndS, if_neg (by decide), e2, bnvS, l1, e, bndS, if_neg (by decide), if_pos (inb_nI (by omega) (by decide)), nI_clamp (by omega), l2 j q1]
  · have M1 := hM.keep (th_Eq 0)
    refine ⟨-1, h, sI h 155 0 0, ?_, ?_, tp, σ, nm, K, fd, fl, tn, hA, hC.lo hA (th_Lo 0), M1⟩
    · unfold f_X12_leftAt
      rw [c1, bndS, if_pos (by decide)]
    · unfold f_X13_leftAt
      rw [lt_s0, m_begF (M1.2.1 3 (by omega)) (by omega) hb, bndS, if_pos (by decide)]
/-! SCANS -/
def bsum (σ : Nat → Nat) (l : List Nat) : Nat := l.foldl (fun s w => s + σ (40 + w)) 0
theorem bsum_snoc (l : List Nat) (w : Nat) : bsum σ (l ++ [w]) = bsum σ l + σ (40 + w) := by
  unfold bsum
  rw [List.foldl_append, List.foldl_cons, List.foldl_nil]
theorem bsum_le (H : TgOk σ nm) {l : List Nat} (hl : ∀ x ∈ l, x < σ 2) : bsum σ l ≤ 9 * l.length := by
  have key : ∀ (l : List Nat) (s : Nat), (∀ x ∈ l, x < σ 2) → l.foldl (fun s w => s + σ (40 + w)) s ≤ s + 9 * l.length := by
    intro l
    induction l with
    | nil => intro s _; exact Nat.le_refl _
    | cons w l ih =>
      intro s hl
      have h1 := ih (s + σ (40 + w)) (fun x hx => hl x (List.mem_cons_of_mem _ hx))
      have h2 := (H.2.2.2.1 w (hl w (List.mem_cons_self ..))).1
      rw [List.foldl_cons, List.length_cons]
      omega
  have := key l 0 hl
  unfold bsum
  omega
theorem c_beatsBy {b : Nat} (hA : AbOk tp σ nm K fd fl tn) (hC : CR tp σ nm K fd fl tn h) (hb : b < 1000) : f_X3_beatsBy 7 18 (nI b) h = some (nI (bsum σ (TX σ b)), h) := by
  have hS := hA.2.1
  have h8 := hS.1.1.2.2.1
  obtain ⟨-, -, -, e3, e3', e4, e4'⟩ := hS.1.1
  have T3 : h.1 9 0 = nI (σ 3) := hC.2.1.1.1.2.2.2.1
  have T4 : h.1 9 1 = nI (σ 4) := hC.2.1.1.1.2.2.2.2
  have r1 : h.1 18 1 = nI (σ 437) := hC.2.1.2.1.1
  have r2 : ∀ k, k < σ 437 → h.1 19 k = nI (σ (438 + k)) := hC.2.1.2.1.2
  have r3 : ∀ w, w < σ 2 → h.1 12 w = nI (σ (40 + w)) := fun w hw => (hC.2.1.1.2.2.2.2.1 w hw).1
  have n24 := hS.2.1.1
  have al2 : aln 19 = 24 := rfl
  unfold f_X3_beatsBy
  refine sq3 (σ 437) (fun i => nI (bsum σ (lf (stk (σ 3) (σ 4) b) (fun i => σ (438 + i)) i))) (fun i => nI i) (fun _ => h) (fun self => ?_) (fun self i hi => ?_) (by omega) rfl rfl rfl
  · unfold F_X3_beatsBy_6
    simp (disch := omega) only [li_0, li_1, li_2, li_3, li_4, li_5, li_6, li_7, li_8, li_9, li_10, li_12, li_13, li_14, li_15, li_16, li_20, li_24, li_25, li_31, li_32, li_40, li_48, li_54, li_56, li_64, li_72, li_97, li_99, li_100, li_112, li_122, li_144, li_145, li_155, li_157, li_200, li_216, li_255, li_256, li_432, li_437, li_438, li_462, li_463, li_713, li_900, li_940, lL_0, lL_1, lL_255, lL_1099511627776, neg_1, ltT, ltF, leT, leF, eqT, eqF, ltMT, ltMF, leMT, leMF, eqMF, eqMF', addM, inbT, clp, nI_add, subN, pk_mul, nzT, remN, shl1, bitN, bit0, bit1, lcE, lcLE, lcLT, LleT, LleF, LltT, LltF, LeqT, LeqF, ↓bndS, ↓bnvS, ↓lt_s1, bndS, bnvS, eq_self, ↓reduceIte, r1]
    rfl
  · have s1 := c_strikes (h := h) (x0 := 9) (b := b) (p := i + 1) T3 T4 (by omega) (by omega) (by omega) hb (by omega)
    have es : lf (stk (σ 3) (σ 4) b) (fun i => σ (438 + i)) (i + 1) = lf (stk (σ 3) (σ 4) b) (fun i => σ (438 + i)) i ++ (if stk (σ 3) (σ 4) b (i + 1) then [] else [σ (438 + i)]) := rfl
    have wi := hS.2.1.2 i hi
    rw [show 437 + 1 + i = 438 + i by omega] at wi
    unfold F_X3_beatsBy_6
    rw [es]
    cases hc : stk (σ 3) (σ 4) b (i + 1)
    · simp only [Bool.false_eq_true, ↓reduceIte]
      rw [bsum_snoc]
      simp (disch := omega) only [li_0, li_1, li_2, li_3, li_4, li_5, li_6, li_7, li_8, li_9, li_10, li_12, li_13, li_14, li_15, li_16, li_20, li_24, li_25, li_31, li_32, li_40, li_48, li_54, li_56, li_64, li_72, li_97, li_99, li_100, li_112, li_122, li_144, li_145, li_155, li_157, li_200, li_216, li_255, li_256, li_432, li_437, li_438, li_462, li_463, li_713, li_900, li_940, lL_0, lL_1, lL_255, lL_1099511627776, neg_1, ltT, ltF, leT, leF, eqT, eqF, ltMT, ltMF, leMT, leMF, eqMF, eqMF', addM, inbT, clp, nI_add, subN, pk_mul, nzT, remN, shl1, bitN, bit0, bit1, lcE, lcLE, lcLT, LleT, LleF, LltT, LltF, LeqT, LeqF, ↓bndS, ↓bnvS, ↓lt_s1, bndS, bnvS, eq_self, ↓reduceIte, r1, s1, hc, al2, r2, r3]
    · simp (disch := omega) only [li_0, li_1, li_2, li_3, li_4, li_5, li_6, li_7, li_8, li_9, li_10, li_12, li_13, li_14, li_15, li_16, li_20, li_24, li_25, li_31, li_32, li_40, li_48, li_54, li_56, li_64, li_72, li_97, li_99, li_100, li_112, li_122, li_144, li_145, li_155, li_157, li_200, li_216, li_255, li_256, li_432, li_437, li_438, li_462, li_463, li_713, li_900, li_940, lL_0, lL_1, lL_255, lL_1099511627776, neg_1, ltT, ltF, leT, leF, eqT, eqF, ltMT, ltMF, leMT, leMF, eqMF, eqMF', addM, inbT, clp, nI_add, subN, pk_mul, nzT, remN, shl1, bitN, bit0, bit1, lcE, lcLE, lcLT, LleT, LleF, LltT, LltF, LeqT, LeqF, ↓bndS, ↓bnvS, ↓lt_s1, bndS, bnvS, eq_self, ↓reduceIte, r1, s1, hc, Bool.true_eq_false, List.append_nil]
def scn (σ : Nat → Nat) (k b : Nat) : Bool := decide (bsum σ (TX σ b) = k)
theorem st_scans (x : Int32) (hI : Inv h) : ∃ v h1 h2, f_X12_scans x h = some (v, h1) ∧ f_X13_scans x h1 = some (v, h2) ∧ Inv h2 := by
  obtain ⟨tp, σ, nm, K, fd, fl, tn, hA, hC, hM⟩ := hI
  have hS := hA.2.1
  have M1 := hM.keep (th_Eq 0)
  have e5 := hS.1.1.2.2.2.2.1
  have h8 := hS.1.1.2.2.1
  have t3 : h.1 9 0 = nI (σ 3) := hC.2.1.1.1.2.2.2.1
  have bl : ∀ b, bsum σ (TX σ b) ≤ 216 := fun b => by
    have h1 := bsum_le hS.1 (TX_mem hS b)
    have h2 := TX_len hS b
    omega
  rcases m_isIn x (lo := nI 0) (hi := nI 216) (a := 0) (b := 216) (sI h 155 0 0) rfl rfl (by decide) (by decide) with ⟨e, q⟩ | ⟨k, q1, q2, rfl, e⟩
  · refine ⟨-1, h, sI h 155 0 0, ?_, ?_, tp, σ, nm, K, fd, fl, tn, hA, hC.lo hA (th_Lo 0), M1⟩
    · unfold f_X12_scans
      by_cases h1 : x < 0
      · rw [if_pos h1]
      · rw [if_neg h1, if_neg]
        intro z
        obtain ⟨j, -, hj, hj2⟩ := in_range (a := 0) (b := 216) (by decide) (by decide) h1 (by rw [Int32.not_lt]; exact z)
        exact q j (by omega) hj hj2
    · unfold f_X13_scans
      rw [lt_s0, li_0, li_216]
      rw [li_0] at e
      rw [e, bndS, if_pos (by decide)]
  · obtain ⟨x, h3, e3, hx, M3, L3⟩ := loop3f (F := F_X13_scans_22 (nI k) (fun v17 h16 => some (v17, h16))) (k := fun v17 h16 => some (v17, h16)) 0 (σ 3 + 1) (by omega) (fun i x g => x = nI (bts (scn σ k) i) ∧ MR tp σ nm K fd fl tn g ∧ Lo (sI h 155 0 0) g) (fun self x g ⟨q1, q2, q3⟩ => by
      have g3 := q2.2.1 3 (by omega)
      unfold F_X13_scans_22
      rw [li_3, clp (by omega), g3, if_pos (nI_lt (by omega) (by omega))]) (fun self i x g h1 hi ⟨q1, q2, q3⟩ => by
      have g3 := q2.2.1 3 (by omega)
      obtain ⟨g2, f2, l1, l2, N2, O2⟩ := m_leftT (b := i) q2 hS (by omega)
      have ms := N2.2.1
      have ll := TX_len hS i
      have tm := TX_mem hS i
      have bi := bl i
      have inn : ∀ (kk : Int32 → Hp → Option (Int32 × Hp)), itr3 (F_X13_scans_43 (nI k) x (nI i) kk) N0 (nI 0) (nI 0) g2 = kk (nI (bsum σ (TX σ i))) g2 := fun kk => by
        refine sq3 (TX σ i).length (fun j => nI (bsum σ ((TX σ i).take j))) (fun i => nI i) (fun _ => g2) (fun self => ?_) (fun self j hj => ?_) (by omega) rfl rfl rfl
        · unfold F_X13_scans_43
          rw [l1, if_pos (nI_le (Nat.le_refl _) (by omega)), List.take_length]
        · have gi : (TX σ i).getD j 0 = (TX σ i)[j] := by simp [List.getD_eq_getElem?_getD, hj]
          have wi := tm _ (List.getElem_mem hj)
          have lj := l2 j hj
          rw [gi] at lj
          unfold F_X13_scans_43
          rw [List.take_succ_eq_append_getElem hj, bsum_snoc]
          simp (disch := omega) only [li_0, li_1, li_2, li_3, li_4, li_5, li_6, li_7, li_8, li_9, li_10, li_12, li_13, li_14, li_15, li_16, li_20, li_24, li_25, li_31, li_32, li_40, li_48, li_54, li_56, li_64, li_72, li_97, li_99, li_100, li_112, li_122, li_144, li_145, li_155, li_157, li_200, li_216, li_255, li_256, li_432, li_437, li_438, li_462, li_463, li_713, li_900, li_940, lL_0, lL_1, lL_255, lL_1099511627776, neg_1, ltT, ltF, leT, leF, eqT, eqF, ltMT, ltMF, leMT, leMF, eqMF, eqMF', addM, inbT, clp, nI_add, subN, pk_mul, nzT, remN, shl1, bitN, bit0, bit1, lcE, lcLE, lcLT, LleT, LleF, LltT, LltF, LeqT, LeqF, ↓bndS, ↓bnvS, ↓lt_s1, bndS, bnvS, eq_self, ↓reduceIte, l1, lj, ms]
      refine ⟨nI (bts (scn σ k) (i + 1)), g2, ?_, rfl, N2, q3.tr O2⟩
      rw [bts_s]
      unfold F_X13_scans_22
      rw [li_3, clp (by omega), g3, if_neg (nI_nlt (by omega) (by omega)), f2, bnvS, li_0, inn, q1]
      by_cases h1 : bsum σ (TX σ i) = k
      · have h2 : scn σ k i = true := by
          unfold scn
          simp [h1]
        simp (disch := omega) only [li_0, li_1, li_2, li_3, li_4, li_5, li_6, li_7, li_8, li_9, li_10, li_12, li_13, li_14, li_15, li_16, li_20, li_24, li_25, li_31, li_32, li_40, li_48, li_54, li_56, li_64, li_72, li_97, li_99, li_100, li_112, li_122, li_144, li_145, li_155, li_157, li_200, li_216, li_255, li_256, li_432, li_437, li_438, li_462, li_463, li_713, li_900, li_940, lL_0, lL_1, lL_255, lL_1099511627776, neg_1, ltT, ltF, leT, leF, eqT, eqF, ltMT, ltMF, leMT, leMF, eqMF, eqMF', addM, inbT, clp, nI_add, subN, pk_mul, nzT, remN, shl1, bitN, bit0, bit1, lcE, lcLE, lcLT, LleT, LleF, LltT, LltF, LeqT, LeqF, ↓bndS, ↓bnvS, ↓lt_s1, bndS, bnvS, eq_self, ↓reduceIte, h1, h2, fa_or]
      · have h2 : scn σ k i = false := by
          unfold scn
          simp [h1]
        simp (disch := omega) only [li_0, li_1, li_2, li_3, li_4, li_5, li_6, li_7, li_8, li_9, li_10, li_12, li_13, li_14, li_15, li_16, li_20, li_24, li_25, li_31, li_32, li_40, li_48, li_54, li_56, li_64, li_72, li_97, li_99, li_100, li_112, li_122, li_144, li_145, li_155, li_157, li_200, li_216, li_255, li_256, li_432, li_437, li_438, li_462, li_463, li_713, li_900, li_940, lL_0, lL_1, lL_255, lL_1099511627776, neg_1, ltT, ltF, leT, leF, eqT, eqF, ltMT, ltMF, leMT, leMF, eqMF, eqMF', addM, inbT, clp, nI_add, subN, pk_mul, nzT, remN, shl1, bitN, bit0, bit1, lcE, lcLE, lcLT, LleT, LleF, LltT, LltF, LeqT, LeqF, ↓bndS, ↓bnvS, ↓lt_s1, bndS, bnvS, eq_self, ↓reduceIte, h1, h2, fa_or, Bool.false_eq_true]) (nI 0) (sI h 155 0 0) ⟨rfl, M1, Lo.rf⟩ (by omega)
    refine ⟨nI (bts (scn σ k) (σ 3 + 1)), h, h3, ?_, ?_, tp, σ, nm, K, fd, fl, tn, hA, hC.lo hA ((th_Lo 0).tr L3), M3⟩
    · unfold f_X12_scans
      rw [li_0, li_216, if_neg (nI_nlt (by omega) (by omega)), if_pos (nI_le q2 (by omega))]
      refine sq3 (σ 3 + 1) (fun i => nI (bts (scn σ k) i)) (fun i => nI i) (fun _ => h) (fun self => ?_) (fun self i hi => ?_) (by omega) rfl rfl rfl
      · unfold F_X12_scans_17
        rw [t3, if_pos (nI_lt (by omega) (by omega))]
      · have c1 := c_beatsBy (b := i) hA hC (by omega)
        have bi := bl i
        unfold F_X12_scans_17
        rw [bts_s]
        by_cases h1 : bsum σ (TX σ i) = k
        · have h2 : scn σ k i = true := by
            unfold scn
            simp [h1]
          simp (disch := omega) only [li_0, li_1, li_2, li_3, li_4, li_5, li_6, li_7, li_8, li_9, li_10, li_12, li_13, li_14, li_15, li_16, li_20, li_24, li_25, li_31, li_32, li_40, li_48, li_54, li_56, li_64, li_72, li_97, li_99, li_100, li_112, li_122, li_144, li_145, li_155, li_157, li_200, li_216, li_255, li_256, li_432, li_437, li_438, li_462, li_463, li_713, li_900, li_940, lL_0, lL_1, lL_255, lL_1099511627776, neg_1, ltT, ltF, leT, leF, eqT, eqF, ltMT, ltMF, leMT, leMF, eqMF, eqMF', addM, inbT, clp, nI_add, subN, pk_mul, nzT, remN, shl1, bitN, bit0, bit1, lcE, lcLE, lcLT, LleT, LleF, LltT, LltF, LeqT, LeqF, ↓bndS, ↓bnvS, ↓lt_s1, bndS, bnvS, eq_self, ↓reduceIte, t3, c1, h1, h2, fa_or]
        · have h2 : scn σ k i = false := by
            unfold scn
            simp [h1]
          simp (disch := omega) only [li_0, li_1, li_2, li_3, li_4, li_5, li_6, li_7, li_8, li_9, li_10, li_12, li_13, li_14, li_15, li_16, li_20, li_24, li_25, li_31, li_32, li_40, li_48, li_54, li_56, li_64, li_72, li_97, li_99, li_100, li_112, li_122, li_144, li_145, li_155, li_157, li_200, li_216, li_255, li_256, li_432, li_437, li_438, li_462, li_463, li_713, li_900, li_940, lL_0, lL_1, lL_255, lL_1099511627776, neg_1, ltT, ltF, leT, leF, eqT, eqF, ltMT, ltMF, leMT, leMF, eqMF, eqMF', addM, inbT, clp, nI_add, subN, pk_mul, nzT, remN, shl1, bitN, bit0, bit1, lcE, lcLE, lcLT, LleT, LleF, LltT, LltF, LeqT, LeqF, ↓bndS, ↓bnvS, ↓lt_s1, bndS, bnvS, eq_self, ↓reduceIte, t3, c1, h1, h2, Nat.or_zero, Bool.false_eq_true]
    · unfold f_X13_scans
      rw [lt_s0, li_0, li_216]
      rw [li_0] at e e3
      rw [e, bndS, if_neg (by decide), e3, hx]
end C2
