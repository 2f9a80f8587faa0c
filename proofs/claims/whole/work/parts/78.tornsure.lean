section TORN3
variable {σ : Nat → Nat} {nm : Nat → List Nat} {h h' : Hp}
theorem L0 {c : Nat} (hc : c < 18446744073709551616) : (lN c = lN 0) = (c = 0) := by
  refine propext ⟨fun z => ?_, fun z => by rw [z]⟩
  have e : (lN c).toBitVec.toNat = (lN 0).toBitVec.toNat := by rw [z]
  rw [wb_tn hc, wb_tn (by decide)] at e
  exact e
theorem c_countAllW {l : Nat → Option Nat} {n i : Nat} {cp : Nat → Nat → Nat} (B : TB σ nm l n h) (hL : LtOk l) (H : TgOk σ nm) (hi : i < n) (hn : n ≤ 12) (hc : ∀ o, o < 6 → ∀ m, m < 8 → h.2.1 137 (o * 8 + m) = lN 0) (ha : ∀ k, k < 5 → ∀ x, x < 8 → h.2.1 138 (k * 8 + x) = lN (cA σ cp k x)) (kk : Hp → Option Hp) : ∃ h', itr2 (F_X8_countAll_40 (nI i) kk) N0 (nI 0) h = kk h' ∧ Same [137] h h' ∧ h'.1 = h.1 ∧ ∀ o, o < 6 → ∀ m, m < 8 → h'.2.1 137 (o * 8 + m) = lN (cN σ (l i) cp o m) := by
  have h8 := H.1.2.2.1
  obtain ⟨h', e, s1, s2, s3⟩ := loop2n (F := F_X8_countAll_40 (nI i) kk) (k := kk) (σ 2) (fun w g => Same [137] h g ∧ g.1 = h.1 ∧ ∀ o, o < 6 → ∀ m, m < 8 → g.2.1 137 (o * 8 + m) = lN (if o < 5 then sm (fun w => (may (l i) w).toNat * sm (fun x => cX σ cp o m w x) 8) w else 0)) (fun self g ⟨q1, q2, q3⟩ => by
      have Bg := B.same (q1.mono (fun a h1 => by simp only [List.mem_cons, List.not_mem_nil, or_false] at h1 ⊢; omega))
      have g7 := Bg.2.1
      have g2 := Bg.1.1.2.2.1
      unfold F_X8_countAll_40
      simp (disch := omega) only [li_0, li_1, li_2, li_3, li_4, li_5, li_6, li_7, li_8, li_9, li_10, li_12, li_13, li_14, li_15, li_16, li_20, li_24, li_25, li_31, li_32, li_40, li_48, li_54, li_56, li_64, li_72, li_97, li_99, li_100, li_112, li_122, li_144, li_145, li_155, li_157, li_200, li_216, li_255, li_256, li_432, li_437, li_438, li_462, li_463, li_713, li_900, li_940, lL_0, lL_1, lL_255, lL_1099511627776, neg_1, ltT, ltF, leT, leF, eqT, eqF, ltMT, ltMF, leMT, leMF, eqMF, eqMF', addM, inbT, clp, nI_add, subN, pk_mul, nzT, remN, shl1, bitN, bit0, bit1, lcE, lcLE, lcLT, LleT, LleF, LltT, LltF, LeqT, LeqF, ↓bndS, ↓bnvS, ↓lt_s1, bndS, bnvS, eq_self, ↓reduceIte, g7, isO87, g2]) (fun self w g hw ⟨q1, q2, q3⟩ => by
      have Bg := B.same (q1.mono (fun a h1 => by simp only [List.mem_cons, List.not_mem_nil, or_false] at h1 ⊢; omega))
      have g7 := Bg.2.1
      have g2 := Bg.1.1.2.2.1
      have ms := c_mayStandAt (w := w) Bg hL hi hn (by omega)
      have es : ∀ o m, sm (fun w => (may (l i) w).toNat * sm (fun x => cX σ cp o m w x) 8) (w + 1) = sm (fun w => (may (l i) w).toNat * sm (fun x => cX σ cp o m w x) 8) w + (may (l i) w).toNat * sm (fun x => cX σ cp o m w x) 8 := fun _ _ => rfl
      cases hm : may (l i) w
      · refine ⟨g, ?_, q1, q2, fun o ho m hm2 => ?_⟩
        · unfold F_X8_countAll_40
          simp (disch := omega) only [li_0, li_1, li_2, li_3, li_4, li_5, li_6, li_7, li_8, li_9, li_10, li_12, li_13, li_14, li_15, li_16, li_20, li_24, li_25, li_31, li_32, li_40, li_48, li_54, li_56, li_64, li_72, li_97, li_99, li_100, li_112, li_122, li_144, li_145, li_155, li_157, li_200, li_216, li_255, li_256, li_432, li_437, li_438, li_462, li_463, li_713, li_900, li_940, lL_0, lL_1, lL_255, lL_1099511627776, neg_1, ltT, ltF, leT, leF, eqT, eqF, ltMT, ltMF, leMT, leMF, eqMF, eqMF', addM, inbT, clp, nI_add, subN, pk_mul, nzT, remN, shl1, bitN, bit0, bit1, lcE, lcLE, lcLT, LleT, LleF, LltT, LltF, LeqT, LeqF, ↓bndS, ↓bnvS, ↓lt_s1, bndS, bnvS, eq_self, ↓reduceIte, g7, isO87, g2, ms, hm]
        · rw [q3 o ho m hm2, es, hm, Bool.toNat_false, Nat.zero_mul, Nat.add_zero]
      · obtain ⟨g', e, r1, r2, r3⟩ := c_countWithT (w := w) Bg.1 g7 H (by omega) q3 (fun k hk x hx => by rw [(q1 138 (by decide)).2.1]; exact ha k hk x hx)
        refine ⟨g', ?_, q1.tr r1, r2.trans q2, fun o ho m hm2 => ?_⟩
        · unfold F_X8_countAll_40
          simp (disch := omega) only [li_0, li_1, li_2, li_3, li_4, li_5, li_6, li_7, li_8, li_9, li_10, li_12, li_13, li_14, li_15, li_16, li_20, li_24, li_25, li_31, li_32, li_40, li_48, li_54, li_56, li_64, li_72, li_97, li_99, li_100, li_112, li_122, li_144, li_145, li_155, li_157, li_200, li_216, li_255, li_256, li_432, li_437, li_438, li_462, li_463, li_713, li_900, li_940, lL_0, lL_1, lL_255, lL_1099511627776, neg_1, ltT, ltF, leT, leF, eqT, eqF, ltMT, ltMF, leMT, leMF, eqMF, eqMF', addM, inbT, clp, nI_add, subN, pk_mul, nzT, remN, shl1, bitN, bit0, bit1, lcE, lcLE, lcLT, LleT, LleF, LltT, LltF, LeqT, LeqF, ↓bndS, ↓bnvS, ↓lt_s1, bndS, bnvS, eq_self, ↓reduceIte, g7, isO87, g2, ms, hm, Bool.true_eq_false, e]
        · rw [r3 o ho m hm2, es, hm, Bool.toNat_true, Nat.one_mul]
          congr 1
          by_cases h5 : o < 5
          · rw [if_pos h5, if_pos h5, if_pos h5]
          · rw [if_neg h5, if_neg h5, if_neg h5]) h ⟨Same.rf, rfl, fun o ho m hm => by rw [hc o ho m hm]; congr 1; exact (ite_self 0).symm⟩ (by omega)
  exact ⟨h', e, s1, s2, s3⟩
def tmS (σ : Nat → Nat) (l : Nat → Option Nat) (n x : Nat) : Nat := if σ (10 + x / 8) = 1 then cS σ l n (x / 8) (x % 8) else 0
def tmB (σ : Nat → Nat) (l : Nat → Option Nat) (n x : Nat) : Nat := if σ (10 + x / 8) = 1 ∧ cS σ l n (x / 8) (x % 8) ≠ 0 then 2 ^ (x % 8) else 0
theorem c_countAll {l : Nat → Option Nat} {n : Nat} (B : TB σ nm l n h) (hL : LtOk l) (H : TgOk σ nm) (hn : n ≤ 12) : ∃ h', f_X8_countAll h = some h' ∧ Same [133, 137, 138] h h' ∧ TB σ nm l n h' ∧ h'.2.1 133 1 = lN (tot σ l n) ∧ h'.1 133 2 = nI (mnt σ (xS σ l n)) ∧ ∀ j, j ≠ 2 → h'.1 133 j = h.1 133 j := by
  obtain ⟨h0, e0, t1, t2, t3⟩ := c_fillL (h := h) (a := 137) (v := 0) (by rw [aln137]; omega)
  rw [aln137] at t3
  have B0 := B.same (t1.mono (fun a h1 => by simp only [List.mem_cons, List.not_mem_nil, or_false] at h1 ⊢; omega))
  have B1 : TB σ nm l n (sL h0 137 40 1) := B0.same (Same.ofL (by decide))
  have S1 : Same [137, 138] h (sL h0 137 40 1) := (t1.mono (fun a h1 => by simp only [List.mem_cons, List.not_mem_nil, or_false] at h1 ⊢; omega)).tr (Same.ofL (by decide))
  obtain ⟨h2, e2, u1, u2, u3⟩ := loop2n (F := F_X8_countAll_18 (fun h14 => lt (sL h14 133 1 (lN 0)) fun h15 => lt (sI h15 133 2 (nI 0)) fun h16 => itr2 (F_X8_countAll_89 (fun h28 => some h28)) N0 (nI 0) h16)) (k := (fun h14 => lt (sL h14 133 1 (lN 0)) fun h15 => lt (sI h15 133 2 (nI 0)) fun h16 => itr2 (F_X8_countAll_89 (fun h28 => some h28)) N0 (nI 0) h16)) n (fun i g => Same [137, 138] h g ∧ g.1 = h.1 ∧ ∀ o, o < 6 → ∀ m, m < 8 → g.2.1 137 (o * 8 + m) = lN (cS σ l i o m)) (fun self g ⟨q1, q2, q3⟩ => by
      have g9 : g.1 133 9 = nI n := by rw [q2]; exact B.2.2.1
      unfold F_X8_countAll_18
      rw [g9, if_pos (nI_le (Nat.le_refl _) (by omega))]) (fun self i g hi ⟨q1, q2, q3⟩ => by
      have g9 : g.1 133 9 = nI n := by rw [q2]; exact B.2.2.1
      have Bg := B.same (q1.mono (fun a h1 => by simp only [List.mem_cons, List.not_mem_nil, or_false] at h1 ⊢; omega))
      obtain ⟨g1, e1, r1, r2, r3⟩ := c_sumAhead Bg.1 Bg.2.1 H q3
      obtain ⟨g2, e2, v1, v2, v3⟩ := c_fillL (h := g1) (a := 137) (v := 0) (by rw [aln137]; omega)
      rw [aln137] at v3
      have S2 : Same [137, 138] h g2 := q1.tr ((r1.mono (fun a h1 => by simp only [List.mem_cons, List.not_mem_nil, or_false] at h1 ⊢; omega)).tr (v1.mono (fun a h1 => by simp only [List.mem_cons, List.not_mem_nil, or_false] at h1 ⊢; omega)))
      have Bg2 := B.same (S2.mono (fun a h1 => by simp only [List.mem_cons, List.not_mem_nil, or_false] at h1 ⊢; omega))
      obtain ⟨g3, e3, w1, w2, w3⟩ := c_countAllW (i := i) (cp := cS σ l i) Bg2 hL H hi hn (fun o ho m hm => v3 _ (by omega)) (fun k hk x hx => by rw [(v1 138 (by decide)).2.1]; exact r3 k hk x hx) (fun h13 => self (nI i + nI 1) h13)
      refine ⟨g3, ?_, S2.tr (w1.mono (fun a h1 => by simp only [List.mem_cons, List.not_mem_nil, or_false] at h1 ⊢; omega)), w2.trans (v2.trans (r2.trans q2)), w3⟩
      unfold F_X8_countAll_18
      rw [g9, if_neg (nI_ge hi (by omega)), e1, bnvS, e2, bnvS, li_0, li_1, e3, nI_add]) (sL h0 137 40 1) ⟨S1, t2, fun o ho m hm => by
        show _ = lN (if o = 5 ∧ m = 0 then 1 else 0)
        by_cases h1 : o = 5 ∧ m = 0
        · rw [if_pos h1, h1.1, h1.2]
          exact sL_s
        · rw [if_neg h1, sL_nk1 (by omega)]
          exact t3 _ (by omega)⟩ (by omega)
  have B2 := B.same (u1.mono (fun a h1 => by simp only [List.mem_cons, List.not_mem_nil, or_false] at h1 ⊢; omega))
  obtain ⟨h3, e3, w1, w2, w3, w4, w5⟩ := loop2n (F := F_X8_countAll_89 (fun h28 => some h28)) (k := fun h28 => some h28) 40 (fun x g => Same [133] h2 g ∧ g.2.2 = h2.2.2 ∧ g.2.1 133 1 = lN (sm (tmS σ l n) x) ∧ g.1 133 2 = nI (ors (tmB σ l n) x) ∧ ∀ j, j ≠ 2 → g.1 133 j = h2.1 133 j) (fun self g _ => by
      unfold F_X8_countAll_89
      simp (disch := omega) only [li_0, li_1, li_2, li_3, li_4, li_5, li_6, li_7, li_8, li_9, li_10, li_12, li_13, li_14, li_15, li_16, li_20, li_24, li_25, li_31, li_32, li_40, li_48, li_54, li_56, li_64, li_72, li_97, li_99, li_100, li_112, li_122, li_144, li_145, li_155, li_157, li_200, li_216, li_255, li_256, li_432, li_437, li_438, li_462, li_463, li_713, li_900, li_940, lL_0, lL_1, lL_255, lL_1099511627776, neg_1, ltT, ltF, leT, leF, eqT, eqF, ltMT, ltMF, leMT, leMF, eqMF, eqMF', addM, inbT, clp, nI_add, subN, pk_mul, nzT, remN, shl1, bitN, bit0, bit1, lcE, lcLE, lcLT, LleT, LleF, LltT, LltF, LeqT, LeqF, ↓bndS, ↓bnvS, ↓lt_s1, bndS, bnvS, eq_self, ↓reduceIte]) (fun self x g hx ⟨q1, q2, q3, q4, q5⟩ => by
      have Tg : TgRep g 7 σ nm := B2.1.kept (fun a h1 h2 => by
        have := q1 a (by simp only [List.mem_cons, List.not_mem_nil, or_false]; omega)
        exact ⟨this.1, this.2.1⟩)
      have g7 : g.2.2 133 7 = 7 := by rw [q2]; exact B2.2.1
      have c1 : g.2.1 137 x = lN (cS σ l n (x / 8) (x % 8)) := by
        have e := u3 (x / 8) (by omega) (x % 8) (by omega)
        rw [show x / 8 * 8 + x % 8 = x by omega] at e
        rw [(q1 137 (by decide)).2.1, e]
      have c2 := L0 (cS_lt H l (i := n) (o := x / 8) (m := x % 8) hn (by omega) (by omega))
      have me := c_mayEnd (k := x / 8) Tg H (by omega)
      have es : sm (tmS σ l n) (x + 1) = sm (tmS σ l n) x + tmS σ l n x := rfl
      have eo : ors (tmB σ l n) (x + 1) = ors (tmB σ l n) x ||| tmB σ l n x := rfl
      by_cases hc : cS σ l n (x / 8) (x % 8) = 0
      · refine ⟨g, ?_, q1, q2, ?_, ?_, q5⟩
        · unfold F_X8_countAll_89
          simp (disch := omega) only [li_0, li_1, li_2, li_3, li_4, li_5, li_6, li_7, li_8, li_9, li_10, li_12, li_13, li_14, li_15, li_16, li_20, li_24, li_25, li_31, li_32, li_40, li_48, li_54, li_56, li_64, li_72, li_97, li_99, li_100, li_112, li_122, li_144, li_145, li_155, li_157, li_200, li_216, li_255, li_256, li_432, li_437, li_438, li_462, li_463, li_713, li_900, li_940, lL_0, lL_1, lL_255, lL_1099511627776, neg_1, ltT, ltF, leT, leF, eqT, eqF, ltMT, ltMF, leMT, leMF, eqMF, eqMF', addM, inbT, clp, nI_add, subN, pk_mul, nzT, remN, shl1, bitN, bit0, bit1, lcE, lcLE, lcLT, LleT, LleF, LltT, LltF, LeqT, LeqF, ↓bndS, ↓bnvS, ↓lt_s1, bndS, bnvS, eq_self, ↓reduceIte, c1, c2, hc]
        · rw [es, q3, show tmS σ l n x = 0 by unfold tmS; rw [hc, ite_self], Nat.add_zero]
        · rw [eo, q4, show tmB σ l n x = 0 from if_neg (fun z => z.2 hc), Nat.or_zero]
      · by_cases he : σ (10 + x / 8) = 1
        · refine ⟨sI (sL g 133 1 (lN (sm (tmS σ l n) x) + lN (cS σ l n (x / 8) (x % 8)))) 133 2 (nI (ors (tmB σ l n) x) ||| nI (2 ^ (x % 8))), ?_, (q1.tr (Same.ofL (by decide))).tr (Same.ofI (by decide)), q2, ?_, ?_, fun j hj => by rw [sI_nk1 hj]; exact q5 j hj⟩
          · have c3 : (sL g 133 1 (lN (sm (tmS σ l n) x) + lN (cS σ l n (x / 8) (x % 8)))).1 133 2 = nI (ors (tmB σ l n) x) := q4
            unfold F_X8_countAll_89
            simp (disch := omega) only [li_0, li_1, li_2, li_3, li_4, li_5, li_6, li_7, li_8, li_9, li_10, li_12, li_13, li_14, li_15, li_16, li_20, li_24, li_25, li_31, li_32, li_40, li_48, li_54, li_56, li_64, li_72, li_97, li_99, li_100, li_112, li_122, li_144, li_145, li_155, li_157, li_200, li_216, li_255, li_256, li_432, li_437, li_438, li_462, li_463, li_713, li_900, li_940, lL_0, lL_1, lL_255, lL_1099511627776, neg_1, ltT, ltF, leT, leF, eqT, eqF, ltMT, ltMF, leMT, leMF, eqMF, eqMF', addM, inbT, clp, nI_add, subN, pk_mul, nzT, remN, shl1, bitN, bit0, bit1, lcE, lcLE, lcLT, LleT, LleF, LltT, LltF, LeqT, LeqF, ↓bndS, ↓bnvS, ↓lt_s1, bndS, bnvS, eq_self, ↓reduceIte, c1, c2, hc, g7, isO87, divN, me, he, decide_true, Bool.true_eq_false, q3, c3]
          · show (sL g 133 1 _).2.1 133 1 = _
            rw [sL_s, lN_add, es, show tmS σ l n x = cS σ l n (x / 8) (x % 8) from if_pos he]
          · rw [sI_s, fa_or, eo, show tmB σ l n x = 2 ^ (x % 8) from if_pos ⟨he, hc⟩]
        · refine ⟨g, ?_, q1, q2, ?_, ?_, q5⟩
          · unfold F_X8_countAll_89
            simp (disch := omega) only [li_0, li_1, li_2, li_3, li_4, li_5, li_6, li_7, li_8, li_9, li_10, li_12, li_13, li_14, li_15, li_16, li_20, li_24, li_25, li_31, li_32, li_40, li_48, li_54, li_56, li_64, li_72, li_97, li_99, li_100, li_112, li_122, li_144, li_145, li_155, li_157, li_200, li_216, li_255, li_256, li_432, li_437, li_438, li_462, li_463, li_713, li_900, li_940, lL_0, lL_1, lL_255, lL_1099511627776, neg_1, ltT, ltF, leT, leF, eqT, eqF, ltMT, ltMF, leMT, leMF, eqMF, eqMF', addM, inbT, clp, nI_add, subN, pk_mul, nzT, remN, shl1, bitN, bit0, bit1, lcE, lcLE, lcLT, LleT, LleF, LltT, LltF, LeqT, LeqF, ↓bndS, ↓bnvS, ↓lt_s1, bndS, bnvS, eq_self, ↓reduceIte, c1, c2, hc, g7, isO87, divN, me, he, decide_false]
          · rw [es, q3, show tmS σ l n x = 0 from if_neg he, Nat.add_zero]
          · rw [eo, q4, show tmB σ l n x = 0 from if_neg (fun z => he z.1), Nat.or_zero]) (sI (sL h2 133 1 (lN 0)) 133 2 (nI 0)) ⟨(Same.ofL (by decide)).tr (Same.ofI (by decide)), rfl, sL_s, sI_s, fun j hj => sI_nk1 hj⟩ (by omega)
  have S3 : Same [133, 137, 138] h h3 := (u1.mono (fun a h1 => by simp only [List.mem_cons, List.not_mem_nil, or_false] at h1 ⊢; omega)).tr (w1.mono (fun a h1 => by simp only [List.mem_cons, List.not_mem_nil, or_false] at h1 ⊢; omega))
  refine ⟨h3, ?_, S3, ⟨B.1.kept (fun a h1 h2 => ?_), ?_, ?_, ?_⟩, ?_, ?_, ?_⟩
  · unfold f_X8_countAll
    rw [e0, bnvS, show (40 : Int32).toNatClampNeg = 40 from lc (n := 40) (by decide), lt_s1, li_0, lL_0]
    rw [e2, lt_s1, lt_s1, e3]
  · have := S3 a (by simp only [List.mem_cons, List.not_mem_nil, or_false]; omega)
    exact ⟨this.1, this.2.1⟩
  · rw [w2]; exact B2.2.1
  · rw [w5 9 (by decide)]; exact B2.2.2.1
  · rw [(S3 136 (by decide)).1]; exact B.2.2.2
  · rw [w3]; exact congrArg lN (tot_c H l n)
  · rw [w4]; exact congrArg nI (meanT H l n)
  · intro j hj
    rw [w5 j hj, u2]
/-! SURE -/
def suB (v : Nat) (s : Bool) (k : Nat) : Bool := decide (v ≠ 0) && allP (alP v k s) 0 8
theorem bts_no {p : Nat → Bool} {n : Nat} (hp : ∀ k, p k = false) : bts p n = 0 := ors_zero 0 n (Nat.zero_le _) (fun i _ _ => by
  show (if p i = true then 2 ^ i else 0) = 0
  rw [hp i]
  rfl)
theorem c_tellSure {l : Nat → Option Nat} {n v : Nat} (B : TB σ nm l n h) (H : TgOk σ nm) (hv : v < 256) (h2 : h.1 133 2 = nI v) : ∃ h', f_X8_tellSure h = some h' ∧ Same [133] h h' ∧ h'.2 = h.2 ∧ h'.1 133 3 = nI (bts (suB v true) (σ 1)) ∧ h'.1 133 4 = nI (bts (suB v false) (σ 1)) ∧ ∀ j, j ≠ 3 → j ≠ 4 → h'.1 133 j = h.1 133 j := by
  have s3 := H.1.2.1
  by_cases h0 : v = 0
  · refine ⟨sI (sI h 133 3 (nI 0)) 133 4 (nI 0), ?_, (Same.ofI (by decide)).tr (Same.ofI (by decide)), rfl, ?_, ?_, fun j h1 h2 => by rw [sI_nk1 h2, sI_nk1 h1]⟩
    · unfold f_X8_tellSure
      rw [li_0, lt_s1, lt_s1]
      have c7 : (sI (sI h 133 3 (nI 0)) 133 4 (nI 0)).2.2 133 7 = 7 := B.2.1
      have c1 : (sI (sI h 133 3 (nI 0)) 133 4 (nI 0)).1 7 1 = nI (σ 1) := B.1.1.2.1
      have c2 : (sI (sI h 133 3 (nI 0)) 133 4 (nI 0)).1 133 2 = nI 0 := by rw [sI_nk1 (by decide), sI_nk1 (by decide), h2, h0]
      refine sq2 0 (fun i => nI i) (fun _ => sI (sI h 133 3 (nI 0)) 133 4 (nI 0)) (fun self => ?_) (fun self i hi => by omega) (by omega) rfl rfl
      unfold F_X8_tellSure_12
      by_cases h1 : σ 1 = 0
      · simp (disch := omega) only [li_0, li_1, li_2, li_3, li_4, li_5, li_6, li_7, li_8, li_9, li_10, li_12, li_13, li_14, li_15, li_16, li_20, li_24, li_25, li_31, li_32, li_40, li_48, li_54, li_56, li_64, li_72, li_97, li_99, li_100, li_112, li_122, li_144, li_145, li_155, li_157, li_200, li_216, li_255, li_256, li_432, li_437, li_438, li_462, li_463, li_713, li_900, li_940, lL_0, lL_1, lL_255, lL_1099511627776, neg_1, ltT, ltF, leT, leF, eqT, eqF, ltMT, ltMF, leMT, leMF, eqMF, eqMF', addM, inbT, clp, nI_add, subN, pk_mul, nzT, remN, shl1, bitN, bit0, bit1, lcE, lcLE, lcLT, LleT, LleF, LltT, LltF, LeqT, LeqF, ↓bndS, ↓bnvS, ↓lt_s1, bndS, bnvS, eq_self, ↓reduceIte, c7, isO87, c1, h1]
      · simp (disch := omega) only [li_0, li_1, li_2, li_3, li_4, li_5, li_6, li_7, li_8, li_9, li_10, li_12, li_13, li_14, li_15, li_16, li_20, li_24, li_25, li_31, li_32, li_40, li_48, li_54, li_56, li_64, li_72, li_97, li_99, li_100, li_112, li_122, li_144, li_145, li_155, li_157, li_200, li_216, li_255, li_256, li_432, li_437, li_438, li_462, li_463, li_713, li_900, li_940, lL_0, lL_1, lL_255, lL_1099511627776, neg_1, ltT, ltF, leT, leF, eqT, eqF, ltMT, ltMF, leMT, leMF, eqMF, eqMF', addM, inbT, clp, nI_add, subN, pk_mul, nzT, remN, shl1, bitN, bit0, bit1, lcE, lcLE, lcLT, LleT, LleF, LltT, LltF, LeqT, LeqF, ↓bndS, ↓bnvS, ↓lt_s1, bndS, bnvS, eq_self, ↓reduceIte, c7, isO87, c1, c2]
    · rw [sI_nk1 (by decide), sI_s, bts_no (fun k => by unfold suB; rw [h0]; rfl)]
    · rw [sI_s, bts_no (fun k => by unfold suB; rw [h0]; rfl)]
  · have dv : decide (v ≠ 0) = true := decide_eq_true h0
    obtain ⟨h', e, w1, w2, w3, w4, w5⟩ := loop2n (F := F_X8_tellSure_12 (fun h14 => some h14)) (k := fun h14 => some h14) (σ 1) (fun k g => Same [133] h g ∧ g.2 = h.2 ∧ g.1 133 3 = nI (bts (suB v true) k) ∧ g.1 133 4 = nI (bts (suB v false) k) ∧ ∀ j, j ≠ 3 → j ≠ 4 → g.1 133 j = h.1 133 j) (fun self g ⟨q1, q2, q3, q4, q5⟩ => by
        have g7 : g.2.2 133 7 = 7 := by rw [q2]; exact B.2.1
        have g1 : g.1 7 1 = nI (σ 1) := by rw [(q1 7 (by decide)).1]; exact B.1.1.2.1
        unfold F_X8_tellSure_12
        simp (disch := omega) only [li_0, li_1, li_2, li_3, li_4, li_5, li_6, li_7, li_8, li_9, li_10, li_12, li_13, li_14, li_15, li_16, li_20, li_24, li_25, li_31, li_32, li_40, li_48, li_54, li_56, li_64, li_72, li_97, li_99, li_100, li_112, li_122, li_144, li_145, li_155, li_157, li_200, li_216, li_255, li_256, li_432, li_437, li_438, li_462, li_463, li_713, li_900, li_940, lL_0, lL_1, lL_255, lL_1099511627776, neg_1, ltT, ltF, leT, leF, eqT, eqF, ltMT, ltMF, leMT, leMF, eqMF, eqMF', addM, inbT, clp, nI_add, subN, pk_mul, nzT, remN, shl1, bitN, bit0, bit1, lcE, lcLE, lcLT, LleT, LleF, LltT, LltF, LeqT, LeqF, ↓bndS, ↓bnvS, ↓lt_s1, bndS, bnvS, eq_self, ↓reduceIte, g7, isO87, g1]) (fun self k g hk ⟨q1, q2, q3, q4, q5⟩ => by
        have g7 : g.2.2 133 7 = 7 := by rw [q2]; exact B.2.1
        have g1 : g.1 7 1 = nI (σ 1) := by rw [(q1 7 (by decide)).1]; exact B.1.1.2.1
        have g2 : g.1 133 2 = nI v := by rw [q5 2 (by decide) (by decide)]; exact h2
        have mw := c_meaningsWith (h := g) (k := k) (by omega)
        have wa := wth_a k (by omega) v hv
        have wb := wth_b k (by omega) v hv
        have an : v &&& wth k < 2 ^ 8 := Nat.and_lt_two_pow _ (wth_lt k (by omega))
        have an2 : v &&& wth k < 256 := an
        have sa : suB v true k = decide (v &&& wth k = v) := by unfold suB; rw [dv, wa, Bool.true_and]
        have sb : suB v false k = decide (v &&& wth k = 0) := by unfold suB; rw [dv, wb, Bool.true_and]
        refine ⟨sI (sI g 133 3 (nI (bts (suB v true) k) ||| (if v &&& wth k = v then nI (2 ^ k) else nI 0))) 133 4 (nI (bts (suB v false) k) ||| (if v &&& wth k = 0 then nI (2 ^ k) else nI 0)), ?_, (q1.tr (Same.ofI (by decide))).tr (Same.ofI (by decide)), q2, ?_, ?_, fun j h1 h2 => by rw [sI_nk1 h2, sI_nk1 h1]; exact q5 j h1 h2⟩
        · have c4 : ∀ y, (sI g 133 3 y).1 133 4 = nI (bts (suB v false) k) := fun y => by rw [sI_nk1 (by decide)]; exact q4
          unfold F_X8_tellSure_12 B_X8_tellSure_60 B_X8_tellSure_80
          by_cases c1 : v &&& wth k = v
          · by_cases c2 : v &&& wth k = 0
            · exact absurd (c1.symm.trans c2) h0
            · simp (disch := omega) only [li_0, li_1, li_2, li_3, li_4, li_5, li_6, li_7, li_8, li_9, li_10, li_12, li_13, li_14, li_15, li_16, li_20, li_24, li_25, li_31, li_32, li_40, li_48, li_54, li_56, li_64, li_72, li_97, li_99, li_100, li_112, li_122, li_144, li_145, li_155, li_157, li_200, li_216, li_255, li_256, li_432, li_437, li_438, li_462, li_463, li_713, li_900, li_940, lL_0, lL_1, lL_255, lL_1099511627776, neg_1, ltT, ltF, leT, leF, eqT, eqF, ltMT, ltMF, leMT, leMF, eqMF, eqMF', addM, inbT, clp, nI_add, subN, pk_mul, nzT, remN, shl1, bitN, bit0, bit1, lcE, lcLE, lcLT, LleT, LleF, LltT, LltF, LeqT, LeqF, ↓bndS, ↓bnvS, ↓lt_s1, bndS, bnvS, eq_self, ↓reduceIte, g7, isO87, g1, g2, mw, fa_and, q3, c4, c1, c2, h0]
          · by_cases c2 : v &&& wth k = 0
            · simp (disch := omega) only [li_0, li_1, li_2, li_3, li_4, li_5, li_6, li_7, li_8, li_9, li_10, li_12, li_13, li_14, li_15, li_16, li_20, li_24, li_25, li_31, li_32, li_40, li_48, li_54, li_56, li_64, li_72, li_97, li_99, li_100, li_112, li_122, li_144, li_145, li_155, li_157, li_200, li_216, li_255, li_256, li_432, li_437, li_438, li_462, li_463, li_713, li_900, li_940, lL_0, lL_1, lL_255, lL_1099511627776, neg_1, ltT, ltF, leT, leF, eqT, eqF, ltMT, ltMF, leMT, leMF, eqMF, eqMF', addM, inbT, clp, nI_add, subN, pk_mul, nzT, remN, shl1, bitN, bit0, bit1, lcE, lcLE, lcLT, LleT, LleF, LltT, LltF, LeqT, LeqF, ↓bndS, ↓bnvS, ↓lt_s1, bndS, bnvS, eq_self, ↓reduceIte, g7, isO87, g1, g2, mw, fa_and, q3, c4, c1, c2, h0, show ¬ 0 = v by omega]
            · simp (disch := omega) only [li_0, li_1, li_2, li_3, li_4, li_5, li_6, li_7, li_8, li_9, li_10, li_12, li_13, li_14, li_15, li_16, li_20, li_24, li_25, li_31, li_32, li_40, li_48, li_54, li_56, li_64, li_72, li_97, li_99, li_100, li_112, li_122, li_144, li_145, li_155, li_157, li_200, li_216, li_255, li_256, li_432, li_437, li_438, li_462, li_463, li_713, li_900, li_940, lL_0, lL_1, lL_255, lL_1099511627776, neg_1, ltT, ltF, leT, leF, eqT, eqF, ltMT, ltMF, leMT, leMF, eqMF, eqMF', addM, inbT, clp, nI_add, subN, pk_mul, nzT, remN, shl1, bitN, bit0, bit1, lcE, lcLE, lcLT, LleT, LleF, LltT, LltF, LeqT, LeqF, ↓bndS, ↓bnvS, ↓lt_s1, bndS, bnvS, eq_self, ↓reduceIte, g7, isO87, g1, g2, mw, fa_and, q3, c4, c1, c2]
        · rw [sI_nk1 (by decide), sI_s, bts_s, sa]
          by_cases c1 : v &&& wth k = v
          · rw [if_pos c1, decide_eq_true c1, if_pos rfl, fa_or]
          · rw [if_neg c1, decide_eq_false c1, if_neg (by decide), fa_or]
        · rw [sI_s, bts_s, sb]
          by_cases c1 : v &&& wth k = 0
          · rw [if_pos c1, decide_eq_true c1, if_pos rfl, fa_or]
          · rw [if_neg c1, decide_eq_false c1, if_neg (by decide), fa_or]) (sI (sI h 133 3 (nI 0)) 133 4 (nI 0)) ⟨(Same.ofI (by decide)).tr (Same.ofI (by decide)), rfl, by rw [sI_nk1 (by decide), sI_s]; rfl, by rw [sI_s]; rfl, fun j h1 h2 => by rw [sI_nk1 h2, sI_nk1 h1]⟩ (by omega)
    refine ⟨h', ?_, w1, w2, w3, w4, w5⟩
    unfold f_X8_tellSure
    rw [li_0, lt_s1, lt_s1, e]
end TORN3
