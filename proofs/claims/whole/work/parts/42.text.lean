section TEXT
variable {tp : List Nat} {σ : Nat → Nat} {nm : Nat → List Nat} {K : Im} {fd : List Nat} {fl : Nat} {tn : Option Tn} {h h' : Hp}
theorem EqM.ofSame {X : List Nat} (hs : Same X h h') (hX : X.all (fun q => !([156, 157, 164, 165, 166, 176, 179, 180, 183, 185].contains q) && !([159, 160, 184].contains q)) = true) (hf : ∀ j ∈ [2, 14, 31, 42, 51, 53], h'.1 155 j = h.1 155 j) (hl : h'.2.1 155 52 = h.2.1 155 52) : EqM h h' := by
  have k1 : ∀ q, q ∈ X → q ∉ [156, 157, 164, 165, 166, 176, 179, 180, 183, 185] ∧ q ∉ [159, 160, 184] := fun q hq => by
    have := List.all_eq_true.mp hX q hq
    simp only [Bool.and_eq_true, Bool.not_eq_true', List.contains_eq_mem, decide_eq_false_iff_not] at this
    exact this
  exact ⟨fun a ha => (hs a (fun z => (k1 a z).1 ha)).1, fun a ha => (hs a (fun z => (k1 a z).2 ha)).2.1, hf, hl⟩
theorem MR.settled (H : MR tp σ nm K fd fl tn h) (hs : Same [155, 164, 165, 166] h h') (h2 : h'.2 = h.2) (hf : ∀ j, j ≠ 25 → j ≠ 26 → j ≠ 31 → h'.1 155 j = h.1 155 j) (h31 : h'.1 155 31 = 0) (ms : MS σ h') : MR tp σ nm K fd fl tn h' := by
  obtain ⟨a, b, c, d, f, g, k, m, n⟩ := H
  have e : ∀ q, q ∉ [155, 164, 165, 166] → h'.1 q = h.1 q := fun q h2 => (hs q h2).1
  unfold MR
  rw [e 156 (by decide), e 157 (by decide), e 176 (by decide), e 179 (by decide), e 180 (by decide), e 183 (by decide), e 185 (by decide), h2, hf 2 (by decide) (by decide) (by decide), hf 14 (by decide) (by decide) (by decide), hf 42 (by decide) (by decide) (by decide), hf 51 (by decide) (by decide) (by decide), hf 53 (by decide) (by decide) (by decide)]
  exact ⟨a, b, c, d, f, g, k, m, Or.inr ⟨h31, ms.2.2⟩⟩
/-- leave: what is left of n numbers in cell a -/
theorem m_leave {a n b e r : Nat} {f : Nat → Nat} (ha : a = 161) (hn : n ≤ 24) (hf : ∀ i, i < n → h.1 a i = nI (f i)) (he : h.1 155 25 = nI e) (hr : h.1 155 26 = nI r) (e0 : 0 < e) (e1 : e < 1000) (r1 : r < 1000) (b1 : b < 1000) : ∃ h', f_X13_leave a (nI n) (nI b) h = some h' ∧ h'.1 155 27 = nI (lf (stk e r b) f n).length ∧ lsI (h'.1 162) (lf (stk e r b) f n) ∧ Same [155, 162] h h' ∧ h'.2 = h.2 ∧ ∀ j, j ≠ 27 → h'.1 155 j = h.1 155 j := by
  have al : aln a = 24 := by rw [ha]; rfl
  obtain ⟨x, g, e2, hx, p1, p2, p3⟩ := loop3n (F := F_X13_leave_6 a (nI n) (nI b) (fun v9 h8 => lt (sI h8 155 27 v9) fun h10 => some h10)) (k := fun v9 h8 => lt (sI h8 155 27 v9) fun h10 => some h10) n (fun i x g => x = nI (lf (stk e r b) f i).length ∧ lsI (g.1 162) (lf (stk e r b) f i) ∧ Same [162] h g ∧ g.2 = h.2) (fun self x g _ => by
      unfold F_X13_leave_6
      rw [if_pos (nI_le (Nat.le_refl n) (by omega))]) (fun self i x g hi ⟨q0, q1, q2, q3⟩ => by
      have s1 := m_isStruck (h := g) (b := b) (p := i + 1) (e := e) (r := r) (by rw [(q2 155 (by decide)).1]; exact he) (by rw [(q2 155 (by decide)).1]; exact hr) e0 e1 r1 b1 (by omega)
      have ll := lf_len (stk e r b) f i
      have gf : g.1 a i = nI (f i) := by rw [(q2 a (by rw [ha]; decide)).1]; exact hf i hi
      have es : lf (stk e r b) f (i + 1) = lf (stk e r b) f i ++ (if stk e r b (i + 1) then [] else [f i]) := rfl
      subst q0
      cases hb : stk e r b (i + 1)
      · refine ⟨nI (lf (stk e r b) f (i + 1)).length, sI g 162 (lf (stk e r b) f i).length (nI (f i)), ?_, rfl, ?_, q2.tr (Same.ofI (by decide)), q3⟩
        · rw [es, hb]
          unfold F_X13_leave_6
          simp (disch := omega) only [li_0, li_1, li_2, li_3, li_4, li_5, li_6, li_7, li_8, li_9, li_10, li_12, li_13, li_14, li_15, li_16, li_20, li_24, li_25, li_31, li_32, li_40, li_48, li_54, li_56, li_64, li_72, li_97, li_99, li_100, li_112, li_122, li_144, li_145, li_155, li_157, li_200, li_216, li_255, li_256, li_432, li_437, li_438, li_462, li_463, li_713, li_900, li_940, lL_0, lL_1, lL_255, lL_1099511627776, neg_1, ltT, ltF, leT, leF, eqT, eqF, ltMT, ltMF, leMT, leMF, eqMF, eqMF', addM, inbT, clp, nI_add, subN, pk_mul, nzT, remN, shl1, bitN, bit0, bit1, lcE, lcLE, lcLT, LleT, LleF, LltT, LltF, LeqT, LeqF, ↓bndS, ↓bnvS, ↓lt_s1, bndS, bnvS, eq_self, ↓reduceIte, s1, hb, al, gf, Bool.false_eq_true, List.length_append, List.length_singleton]
        · rw [es, hb]
          intro j hj
          simp only [Bool.false_eq_true, ↓reduceIte, List.length_append, List.length_singleton] at hj ⊢
          by_cases hj2 : j = (lf (stk e r b) f i).length
          · subst hj2
            rw [sI_s]
            simp [List.getD_eq_getElem?_getD]
          · rw [sI_nk1 hj2, q1 j (by omega)]
            simp [List.getD_eq_getElem?_getD, List.getElem?_append_left (show j < (lf (stk e r b) f i).length by omega)]
      · refine ⟨nI (lf (stk e r b) f (i + 1)).length, g, ?_, rfl, ?_, q2, q3⟩
        · rw [es, hb]
          unfold F_X13_leave_6
          simp (disch := omega) only [li_0, li_1, li_2, li_3, li_4, li_5, li_6, li_7, li_8, li_9, li_10, li_12, li_13, li_14, li_15, li_16, li_20, li_24, li_25, li_31, li_32, li_40, li_48, li_54, li_56, li_64, li_72, li_97, li_99, li_100, li_112, li_122, li_144, li_145, li_155, li_157, li_200, li_216, li_255, li_256, li_432, li_437, li_438, li_462, li_463, li_713, li_900, li_940, lL_0, lL_1, lL_255, lL_1099511627776, neg_1, ltT, ltF, leT, leF, eqT, eqF, ltMT, ltMF, leMT, leMF, eqMF, eqMF', addM, inbT, clp, nI_add, subN, pk_mul, nzT, remN, shl1, bitN, bit0, bit1, lcE, lcLE, lcLT, LleT, LleF, LltT, LltF, LeqT, LeqF, ↓bndS, ↓bnvS, ↓lt_s1, bndS, bnvS, eq_self, ↓reduceIte, s1, hb, al, gf, Bool.true_eq_false, List.append_nil]
        · rw [es, hb]
          simp only [↓reduceIte, List.append_nil]
          exact q1) (nI 0) h ⟨rfl, (fun i hi => absurd hi (Nat.not_lt_zero _)), Same.rf, rfl⟩ (by omega)
  refine ⟨sI g 155 27 x, ?_, by rw [sI_s, hx], ?_, (p2.mono (fun q hq => by simp only [List.mem_cons, List.not_mem_nil, or_false] at hq ⊢; omega)).tr (Same.ofI (by decide)), p3, fun j hj => by rw [sI_nk1 hj, (p2 155 (by decide)).1]⟩
  · unfold f_X13_leave
    rw [li_0, e2, lt_s0]
  · intro i hi
    rw [sI_ne1 (by decide)]
    exact p1 i hi
/-- what is left of the TEXT -/
def TX (σ : Nat → Nat) (b : Nat) : List Nat := lf (stk (σ 3) (σ 4) b) (fun i => σ (438 + i)) (σ 437)
theorem m_leaveText {b : Nat} (ms : ∀ k, k < 713 → h.1 157 k = nI (σ k)) (H : TgOk σ nm) (hR : rowOk σ 437) (b1 : b < 1000) : ∃ h', f_X13_leaveText (nI b) h = some h' ∧ h'.1 155 27 = nI (TX σ b).length ∧ lsI (h'.1 162) (TX σ b) ∧ (Same [155, 161, 162] h h' ∧ h'.2 = h.2) ∧ (∀ j, j ≠ 25 → j ≠ 26 → j ≠ 27 → h'.1 155 j = h.1 155 j) ∧ h'.1 155 25 = nI (σ 3) ∧ h'.1 155 26 = nI (σ 4) := by
  obtain ⟨⟨-, -, -, e3, e3', e4, e4'⟩, -⟩ := H
  obtain ⟨n24, -⟩ := hR
  obtain ⟨h2, eh2⟩ : ∃ q, q = sI (sI h 155 25 (nI (σ 3))) 155 26 (nI (σ 4)) := ⟨_, rfl⟩
  have m2 : ∀ k, k < 713 → h2.1 157 k = nI (σ k) := fun k hk => by rw [eh2, sI_ne1 (by decide), sI_ne1 (by decide)]; exact ms k hk
  obtain ⟨g, e, p1, p0, p2⟩ := loop2n (F := F_X13_leaveText_22 (nI b) (fun h7 => bnv (f_X13_leave 161 (h7.1 157 ((437 : Int32).toNatClampNeg)) (nI b) h7) fun h8 => some h8)) (k := fun h7 => bnv (f_X13_leave 161 (h7.1 157 ((437 : Int32).toNatClampNeg)) (nI b) h7) fun h8 => some h8) (σ 437) (fun i g => Same [161] h2 g ∧ g.2 = h2.2 ∧ ∀ k, k < i → g.1 161 k = nI (σ (438 + k))) (fun self g ⟨q1, q0, q2⟩ => by
      have mg : ∀ k, k < 713 → g.1 157 k = nI (σ k) := fun k hk => by rw [(q1 157 (by decide)).1]; exact m2 k hk
      have c0 : g.1 157 ((437 : Int32).toNatClampNeg) = nI (σ 437) := by rw [li_437, clp (by omega)]; exact mg 437 (by omega)
      unfold F_X13_leaveText_22
      exact if_pos (by rw [c0]; exact nI_le (Nat.le_refl _) (by omega))) (fun self i g hi ⟨q1, q0, q2⟩ => by
      have mg : ∀ k, k < 713 → g.1 157 k = nI (σ k) := fun k hk => by rw [(q1 157 (by decide)).1]; exact m2 k hk
      refine ⟨sI g 161 i (nI (σ (438 + i))), ?_, q1.tr (Same.ofI (by decide)), q0, fun k hk => ?_⟩
      · unfold F_X13_leaveText_22
        simp (disch := omega) only [li_0, li_1, li_2, li_3, li_4, li_5, li_6, li_7, li_8, li_9, li_10, li_12, li_13, li_14, li_15, li_16, li_20, li_24, li_25, li_31, li_32, li_40, li_48, li_54, li_56, li_64, li_72, li_97, li_99, li_100, li_112, li_122, li_144, li_145, li_155, li_157, li_200, li_216, li_255, li_256, li_432, li_437, li_438, li_462, li_463, li_713, li_900, li_940, lL_0, lL_1, lL_255, lL_1099511627776, neg_1, ltT, ltF, leT, leF, eqT, eqF, ltMT, ltMF, leMT, leMF, eqMF, eqMF', addM, inbT, clp, nI_add, subN, pk_mul, nzT, remN, shl1, bitN, bit0, bit1, lcE, lcLE, lcLT, LleT, LleF, LltT, LltF, LeqT, LeqF, ↓bndS, ↓bnvS, ↓lt_s1, bndS, bnvS, eq_self, ↓reduceIte, mg]
      · by_cases hk2 : k = i
        · subst hk2
          rw [sI_s]
        · rw [sI_nk1 hk2]
          exact q2 k (by omega)) h2 ⟨Same.rf, rfl, fun k hk => by omega⟩ (by omega)
  have g25 : g.1 155 25 = nI (σ 3) := by rw [(p1 155 (by decide)).1, eh2, sI_nk1 (by decide), sI_s]
  have g26 : g.1 155 26 = nI (σ 4) := by rw [(p1 155 (by decide)).1, eh2, sI_s]
  have mg : ∀ k, k < 713 → g.1 157 k = nI (σ k) := fun k hk => by rw [(p1 157 (by decide)).1]; exact m2 k hk
  obtain ⟨q, e2, r1, r2, r3, r4, r5⟩ := m_leave (a := 161) (h := g) (b := b) (f := fun i => σ (438 + i)) rfl n24 p2 g25 g26 (by omega) (by omega) (by omega) b1
  refine ⟨q, ?_, r1, r2, ⟨?_, ?_⟩, fun j h1 h2' h3 => ?_, ?_, ?_⟩
  · have e0 : sI (sI h 155 25 (h.1 157 ((3 : Int32).toNatClampNeg))) 155 26 ((sI h 155 25 (h.1 157 ((3 : Int32).toNatClampNeg))).1 157 ((4 : Int32).toNatClampNeg)) = h2 := by
      rw [eh2]
      simp (disch := omega) only [li_0, li_1, li_2, li_3, li_4, li_5, li_6, li_7, li_8, li_9, li_10, li_12, li_13, li_14, li_15, li_16, li_20, li_24, li_25, li_31, li_32, li_40, li_48, li_54, li_56, li_64, li_72, li_97, li_99, li_100, li_112, li_122, li_144, li_145, li_155, li_157, li_200, li_216, li_255, li_256, li_432, li_437, li_438, li_462, li_463, li_713, li_900, li_940, lL_0, lL_1, lL_255, lL_1099511627776, neg_1, ltT, ltF, leT, leF, eqT, eqF, ltMT, ltMF, leMT, leMF, eqMF, eqMF', addM, inbT, clp, nI_add, subN, pk_mul, nzT, remN, shl1, bitN, bit0, bit1, lcE, lcLE, lcLT, LleT, LleF, LltT, LltF, LeqT, LeqF, ↓bndS, ↓bnvS, ↓lt_s1, bndS, bnvS, eq_self, ↓reduceIte, ms, sI_nk1, sI_ne1]
    unfold f_X13_leaveText
    rw [lt_s0, lt_s0, e0, li_0, e]
    rw [li_437, clp (by omega), mg 437 (by omega), e2, bnvS]
  · refine Same.tr (h1 := h2) ?_ ((p1.mono (fun q hq => by simp only [List.mem_cons, List.not_mem_nil, or_false] at hq ⊢; omega)).tr (r3.mono (fun q hq => by simp only [List.mem_cons, List.not_mem_nil, or_false] at hq ⊢; omega)))
    rw [eh2]
    exact (Same.ofI (by decide)).tr (Same.ofI (by decide))
  · rw [r4, p0, eh2]; rfl
  · rw [r5 j h3, (p1 155 (by decide)).1, eh2, sI_nk1 h2', sI_nk1 h1]
  · rw [r5 25 (by decide)]; exact g25
  · rw [r5 26 (by decide)]; exact g26
theorem m_meant {a : Nat} {l : List Nat} (hs : ∀ k, k < 15 → h.1 157 k = nI (σ k)) (C : Cache σ h) (H : TgOk σ nm) (hl : ∀ x ∈ l, x < σ 2) (hn : l.length ≤ aln a) (ha : aln a ≤ 1000) (hf : lsI (h.1 a) l) : f_X13_meant a (nI l.length) h = some (nI (mean σ l), h) := by
  have h8 := H.1.2.2.1
  have t8 : ∀ i, ∀ x ∈ l.take i, x < 8 := fun i x hx => by have := hl x (List.mem_of_mem_take hx); omega
  unfold f_X13_meant
  refine sq3 l.length (fun i => mst (run σ (l.take i))) (fun i => nI i) (fun _ => h) (fun self => ?_) (fun self i hi => ?_) (by omega) ?_ rfl rfl
  · unfold F_X13_meant_7
    rw [if_pos (nI_le (Nat.le_refl _) (by omega)), List.take_length]
    show bnd (f_X13_ends (mst (run σ l)) h) _ = _
    rw [m_ends hs H (run_le H (fun x hx => by have := hl x hx; omega)), bndS]
    rfl
  · have gi : l.getD i 0 = l[i] := by simp [List.getD_eq_getElem?_getD, hi]
    have wi : l[i] < σ 2 := hl _ (List.getElem_mem hi)
    have c1 := m_comes (X := run σ (l.take i)) (w := l[i]) hs C H (run_le H (t8 i)) wi
    have hi2 := hf i hi
    rw [gi] at hi2
    unfold F_X13_meant_7
    rw [if_neg (nI_ge hi (by omega)), if_pos (inb_nI (by omega) (by omega)), nI_clamp (by omega), hi2, c1, bndS, nI_1, List.take_succ_eq_append_getElem hi, run_snoc, mst_stp H (by omega)]
  · show mst (run σ []) = -1
    rfl
theorem m_textMeans {b : Nat} (hM : MR tp σ nm K fd fl tn h) (hS : SgOk σ nm) (b1 : b ≤ σ 3) : ∃ h', f_X13_textMeans (nI b) h = some (nI (mean σ (TX σ b)), h') ∧ MR tp σ nm K fd fl tn h' ∧ Lo h h' := by
  have H := hS.1
  have e5 := H.1.2.2.2.2.1
  obtain ⟨h1, e1, s1, s2, s3, s4, s5⟩ := m_settle hM H
  have M1 := hM.settled s1 s2 s3 s4 s5
  obtain ⟨h2, e2, l1, l2, ⟨l3, l3'⟩, l4, l5, l6⟩ := m_leaveText (b := b) M1.2.1 H hS.2.1 (by omega)
  have q2 : EqM h1 h2 := EqM.ofSame l3 (by decide) (fun j hj => l4 j (fun z => by subst z; revert hj; decide) (fun z => by subst z; revert hj; decide) (fun z => by subst z; revert hj; decide)) (by rw [l3'])
  have M2 := M1.keep q2
  have C2 : Cache σ h2 := by
    have := s5.2.2
    unfold Cache
    rw [(l3 166 (by decide)).1, (l3 165 (by decide)).1, (l3 164 (by decide)).1]
    exact this
  have ln : (TX σ b).length ≤ 24 := Nat.le_trans (lf_len _ _ _) hS.2.1.1
  have lm : ∀ x ∈ TX σ b, x < σ 2 := lf_mem _ _ _ (fun i hi => by
    have := hS.2.1.2 i hi
    rw [show 437 + 1 + i = 438 + i by omega] at this
    exact this)
  have e3 := m_meant (a := 162) (l := TX σ b) (h := h2) (fun k hk => M2.2.1 k (by omega)) C2 H lm ln (by decide) l2
  refine ⟨h2, ?_, M2, (s1.lo (by decide)).tr (l3.lo (by decide))⟩
  unfold f_X13_textMeans
  rw [e1, bnvS, e2, bnvS, l1, e3, bndS]
/-- the class's meansBy -/
theorem c_meansBy {t r b n : Nat} {f : Nat → Nat} (T : TgRep h t σ nm) (H : TgOk σ nm) (hn : h.1 r 1 = nI n) (hf : ∀ i, i < n → h.1 (r + 1) i = nI (f i)) (hl : ∀ i, i < n → f i < σ 2) (hr : n ≤ aln (r + 1)) (hc : aln (r + 1) ≤ 500) (hb : b < 1000) : f_X3_meansBy t r (nI b) h = some (nI (mean σ (lf (stk (σ 3) (σ 4) b) f n)), h) := by
  have h8 := H.1.2.2.1
  obtain ⟨-, -, -, e3, e3', e4, e4'⟩ := H.1
  obtain ⟨-, -, -, T3, T4⟩ := T.1
  have lr : ∀ i, i ≤ n → run σ (lf (stk (σ 3) (σ 4) b) f i) ≤ 1099511627776 := fun i hi => run_le H (lf_mem _ _ i (fun j hj => by have := hl j (by omega); omega))
  unfold f_X3_meansBy
  refine sq3 n (fun i => lN (run σ (lf (stk (σ 3) (σ 4) b) f i))) (fun i => nI i) (fun _ => h) (fun self => ?_) (fun self i hi => ?_) (by omega) ?_ rfl rfl
  · unfold F_X3_meansBy_8
    rw [hn, if_pos (nI_le (Nat.le_refl _) (by omega))]
    show bnd (f_X10_meant t (lN (run σ (lf (stk (σ 3) (σ 4) b) f n))) h) _ = _
    rw [c_meant T H (lr n (Nat.le_refl _)), bndS]
    rfl
  · have s1 := c_strikes (h := h) (x0 := t + 2) (b := b) (p := i + 1) T3 T4 (by omega) (by omega) (by omega) hb (by omega)
    have es : lf (stk (σ 3) (σ 4) b) f (i + 1) = lf (stk (σ 3) (σ 4) b) f i ++ (if stk (σ 3) (σ 4) b (i + 1) then [] else [f i]) := rfl
    have c1 := c_stepped (w := f i) T H (lr i (by omega)) (hl i hi)
    have hfi := hf i hi
    unfold F_X3_meansBy_8
    rw [es]
    cases hb : stk (σ 3) (σ 4) b (i + 1)
    · simp only [Bool.false_eq_true, ↓reduceIte]
      rw [run_snoc]
      simp (disch := omega) only [li_0, li_1, li_2, li_3, li_4, li_5, li_6, li_7, li_8, li_9, li_10, li_12, li_13, li_14, li_15, li_16, li_20, li_24, li_25, li_31, li_32, li_40, li_48, li_54, li_56, li_64, li_72, li_97, li_99, li_100, li_112, li_122, li_144, li_145, li_155, li_157, li_200, li_216, li_255, li_256, li_432, li_437, li_438, li_462, li_463, li_713, li_900, li_940, lL_0, lL_1, lL_255, lL_1099511627776, neg_1, ltT, ltF, leT, leF, eqT, eqF, ltMT, ltMF, leMT, leMF, eqMF, eqMF', addM, inbT, clp, nI_add, subN, pk_mul, nzT, remN, shl1, bitN, bit0, bit1, lcE, lcLE, lcLT, LleT, LleF, LltT, LltF, LeqT, LeqF, ↓bndS, ↓bnvS, ↓lt_s1, bndS, bnvS, eq_self, ↓reduceIte, hn, s1, hb, hfi, c1]
    · simp (disch := omega) only [li_0, li_1, li_2, li_3, li_4, li_5, li_6, li_7, li_8, li_9, li_10, li_12, li_13, li_14, li_15, li_16, li_20, li_24, li_25, li_31, li_32, li_40, li_48, li_54, li_56, li_64, li_72, li_97, li_99, li_100, li_112, li_122, li_144, li_145, li_155, li_157, li_200, li_216, li_255, li_256, li_432, li_437, li_438, li_462, li_463, li_713, li_900, li_940, lL_0, lL_1, lL_255, lL_1099511627776, neg_1, ltT, ltF, leT, leF, eqT, eqF, ltMT, ltMF, leMT, leMF, eqMF, eqMF', addM, inbT, clp, nI_add, subN, pk_mul, nzT, remN, shl1, bitN, bit0, bit1, lcE, lcLE, lcLT, LleT, LleF, LltT, LltF, LeqT, LeqF, ↓bndS, ↓bnvS, ↓lt_s1, bndS, bnvS, eq_self, ↓reduceIte, hn, s1, hb, Bool.true_eq_false, List.append_nil]
  · rfl
end TEXT
