section TORNB
variable {tp : List Nat} {σ : Nat → Nat} {nm : Nat → List Nat} {K : Im} {fd : List Nat} {fl : Nat} {tn : Option Tn} {h h' : Hp}
theorem vw_le (H : TgOk σ nm) (l : Nat → Option Nat) (n : Nat) {d w X : Nat} (hw : w < σ 2) : vw σ X (l (n - 1 - d)) (gb σ l n d) w ≤ 60 ^ pb l n (d + 1) := by
  unfold vw
  by_cases h1 : may (l (n - 1 - d)) w = true
  · rw [if_pos h1, mx_mul]
    refine (mx_le _).mpr (fun k hk => ?_)
    unfold bm
    by_cases h2 : bh σ X w k = true
    · rw [if_pos h2]; exact wg_le H l n hw (by omega)
    · rw [if_neg h2, Nat.mul_zero]; exact Nat.zero_le _
  · rw [if_neg h1]; exact Nat.zero_le _
theorem m_likely {l : Nat → Option Nat} {n : Nat} (B : TM σ l n h) (hL : LtOk l) (H : TgOk σ nm) (h0 : 1 ≤ n) (hn : n ≤ 12) (hp : pb l n n ≤ 10) : ∃ h', f_X13_likely (nI n) h = some h' ∧ Same [155, 180, 182] h h' ∧ (∀ j, j ≠ 51 → h'.1 155 j = h.1 155 j) ∧ h'.2.1 155 52 = lN (gb σ l n n 5) ∧ (0 < gb σ l n n 5 → h'.1 155 51 = nI n ∧ ∀ j, j < n → h'.1 180 j = nI (wr σ l n j)) := by
  have h8 := H.1.2.2.1
  have pm : ∀ d, d ≤ n → pb l n d ≤ 10 := fun d hd => by
    have := pb_mono l n (d := d) (n - d)
    rw [show d + (n - d) = n by omega] at this
    omega
  obtain ⟨h1, e1, s1, s2, s3⟩ := m_best B hL H h0 hn hp (fun h13 => lt (sI h13 155 51 (nI 0)) fun h14 => itr4 (F_X13_likely_88 (nI n) (fun h47 => lt (sL h47 155 52 (lN 0)) fun h48 => some h48) (fun v50 h49 => lt (sI h49 155 51 (nI n)) fun h51 => lt (sL h51 155 52 v50) fun h52 => some h52)) N0 (nI 0) (lN 0) (nI 0) h14)
  have E : f_X13_likely (nI n) h = itr4 (F_X13_likely_88 (nI n) (fun h47 => lt (sL h47 155 52 (lN 0)) fun h48 => some h48) (fun v50 h49 => lt (sI h49 155 51 (nI n)) fun h51 => lt (sL h51 155 52 v50) fun h52 => some h52)) N0 (nI 0) (lN 0) (nI 0) (sI h1 155 51 (nI 0)) := by
    unfold f_X13_likely
    rw [li_0, li_1, lL_0, e1, lt_s1]
  have S1 : Same [155, 180, 182] h (sI h1 155 51 (nI 0)) := (s1.mono (fun a h1 => by simp only [List.mem_cons, List.not_mem_nil, or_false] at h1 ⊢; omega)).tr (Same.ofI (by decide))
  have f1 : ∀ j, j ≠ 51 → (sI h1 155 51 (nI 0)).1 155 j = h.1 155 j := fun j hj => by rw [sI_nk1 hj, s2]
  have B1 : TM σ l n (sI h1 155 51 (nI 0)) := B.same S1 (by decide)
  have st : ∀ (i : Nat) (x2 : Int32) (x3 : Int64) (g : Hp) (self : Int32 → Int64 → Int32 → Hp → Option Hp), i < n → XR (ch σ l n i).1 i x2 → Same [180] (sI h1 155 51 (nI 0)) g → ∀ k307 k331, F_X13_likely_88 (nI n) k307 k331 self x2 x3 (nI i) g = (if nI i = nI 0 then B_X13_likely_302 (nI n) k307 k331 self (lN (mx (vw σ (ch σ l n i).1 (l i) (gb σ l n (n - 1 - i))) (σ 2))) (nI i) (c8 (vw σ (ch σ l n i).1 (l i) (gb σ l n (n - 1 - i))) (σ 2)) (c9 σ (ch σ l n i).1 (vw σ (ch σ l n i).1 (l i) (gb σ l n (n - 1 - i))) (σ 2)) g else B_X13_likely_302 (nI n) k307 k331 self x3 (nI i) (c8 (vw σ (ch σ l n i).1 (l i) (gb σ l n (n - 1 - i))) (σ 2)) (c9 σ (ch σ l n i).1 (vw σ (ch σ l n i).1 (l i) (gb σ l n (n - 1 - i))) (σ 2)) g) := fun i x2 x3 g self hi hX hs k307 k331 => by
    have A := m_l106 (x1 := nI n) (x2 := x2) (x3 := x3) (X := (ch σ l n i).1) (g := gb σ l n (n - 1 - i)) (B1.same hs (by decide)) hL H hi hn hX (fun k hk => ⟨by
      rw [(hs 182 (by decide)).2.1]
      show h1.2.1 182 _ = _
      rw [s3 (i + 1) (by omega) (by omega) k hk, show n - (i + 1) = n - 1 - i by omega], Nat.lt_of_le_of_lt (gb_le H l n _ k (by omega)) (p60 (pm _ (by omega)))⟩) (fun w hw => by
      have := vw_le H l n (d := n - 1 - i) (X := (ch σ l n i).1) hw
      rw [show n - 1 - (n - 1 - i) = i by omega] at this
      exact Nat.lt_of_le_of_lt this (p60 (pm _ (by omega)))) (fun v40 v41 v42 h39 => if nI i = nI 0 then B_X13_likely_302 (nI n) k307 k331 self v40 (nI i) v41 v42 h39 else B_X13_likely_302 (nI n) k307 k331 self x3 (nI i) v41 v42 h39)
    unfold F_X13_likely_88
    rw [if_neg (nI_ge hi (by omega)), li_0, lL_0, A]
  by_cases hz : 0 < gb σ l n n 5
  · obtain ⟨a, b, h2, e2, t0, t1, t2, t3, t4⟩ := loop4n (F := F_X13_likely_88 (nI n) (fun h47 => lt (sL h47 155 52 (lN 0)) fun h48 => some h48) (fun v50 h49 => lt (sI h49 155 51 (nI n)) fun h51 => lt (sL h51 155 52 v50) fun h52 => some h52)) (k := fun _ v50 h49 => lt (sI h49 155 51 (nI n)) fun h51 => lt (sL h51 155 52 v50) fun h52 => some h52) n (fun i a b g => XR (ch σ l n i).1 i a ∧ (0 < i → b = lN (gb σ l n n 5)) ∧ Same [180] (sI h1 155 51 (nI 0)) g ∧ g.2 = (sI h1 155 51 (nI 0)).2 ∧ ∀ j, j < i → g.1 180 j = nI (wr σ l n j)) (fun self a b g _ => by
        unfold F_X13_likely_88
        rw [if_pos (nI_le (Nat.le_refl _) (by omega))]) (fun self i a b g hi ⟨q0, q1, q2, q3, q4⟩ => by
        have cs := ch_step hi hz (ch_inv hz i (by omega))
        have M0 : 0 < mx (vw σ (ch σ l n i).1 (l i) (gb σ l n (n - 1 - i))) (σ 2) := by
          have := cs.1
          by_cases h1 : mx (vw σ (ch σ l n i).1 (l i) (gb σ l n (n - 1 - i))) (σ 2) = 0
          · rw [h1, Nat.mul_zero] at this; omega
          · omega
        have e8 : c8 (vw σ (ch σ l n i).1 (l i) (gb σ l n (n - 1 - i))) (σ 2) = nI (wr σ l n i) := if_pos M0
        have e9 : c9 σ (ch σ l n i).1 (vw σ (ch σ l n i).1 (l i) (gb σ l n (n - 1 - i))) (σ 2) = nI (ch σ l n (i + 1)).1 := if_pos M0
        have wl := cs.2.1
        refine ⟨nI (ch σ l n (i + 1)).1, lN (gb σ l n n 5), sI g 180 i (nI (wr σ l n i)), ?_, Or.inr ⟨by omega, ?_, rfl⟩, fun _ => rfl, q2.tr (Same.ofI (by decide)), q3, fun j hj => ?_⟩
        · rw [st i a b g self hi q0 q2, e8, e9]
          unfold B_X13_likely_302
          by_cases hi0 : i = 0
          · subst hi0
            have := cs.1
            rw [show (ch σ l n 0).2 = 1 from rfl, Nat.one_mul] at this
            rw [this]
            simp (disch := omega) only [li_0, li_1, li_2, li_3, li_4, li_5, li_6, li_7, li_8, li_9, li_10, li_12, li_13, li_14, li_15, li_16, li_20, li_24, li_25, li_31, li_32, li_40, li_48, li_54, li_56, li_64, li_72, li_97, li_99, li_100, li_112, li_122, li_144, li_145, li_155, li_157, li_200, li_216, li_255, li_256, li_432, li_437, li_438, li_462, li_463, li_713, li_900, li_940, lL_0, lL_1, lL_255, lL_1099511627776, neg_1, ltT, ltF, leT, leF, eqT, eqF, ltMT, ltMF, leMT, leMF, eqMF, eqMF', addM, inbT, clp, nI_add, subN, pk_mul, nzT, remN, shl1, bitN, bit0, bit1, lcE, lcLE, lcLT, LleT, LleF, LltT, LltF, LeqT, LeqF, ↓bndS, ↓bnvS, ↓lt_s1, bndS, bnvS, eq_self, ↓reduceIte]
          · rw [q1 (by omega)]
            simp (disch := omega) only [li_0, li_1, li_2, li_3, li_4, li_5, li_6, li_7, li_8, li_9, li_10, li_12, li_13, li_14, li_15, li_16, li_20, li_24, li_25, li_31, li_32, li_40, li_48, li_54, li_56, li_64, li_72, li_97, li_99, li_100, li_112, li_122, li_144, li_145, li_155, li_157, li_200, li_216, li_255, li_256, li_432, li_437, li_438, li_462, li_463, li_713, li_900, li_940, lL_0, lL_1, lL_255, lL_1099511627776, neg_1, ltT, ltF, leT, leF, eqT, eqF, ltMT, ltMF, leMT, leMF, eqMF, eqMF', addM, inbT, clp, nI_add, subN, pk_mul, nzT, remN, shl1, bitN, bit0, bit1, lcE, lcLE, lcLT, LleT, LleF, LltT, LltF, LeqT, LeqF, ↓bndS, ↓bnvS, ↓lt_s1, bndS, bnvS, eq_self, ↓reduceIte]
        · exact bts_lt (bh σ (ch σ l n i).1 (wr σ l n i)) (n := 5)
        · by_cases h1 : j = i
          · subst h1; exact sI_s
          · rw [sI_nk1 h1]; exact q4 j (by omega)) (nI 0) (lN 0) (sI h1 155 51 (nI 0)) ⟨Or.inl ⟨rfl, rfl⟩, fun z => absurd z (Nat.lt_irrefl _), Same.rf, rfl, fun j hj => by omega⟩ (by omega)
    refine ⟨sL (sI h2 155 51 (nI n)) 155 52 (lN (gb σ l n n 5)), ?_, ?_, fun j hj => ?_, sL_s, fun _ => ⟨?_, fun j hj => ?_⟩⟩
    · rw [E, e2, lt_s1, lt_s1, t1 (by omega)]
    · exact ((S1.tr (t2.mono (fun a h1 => by simp only [List.mem_cons, List.not_mem_nil, or_false] at h1 ⊢; omega))).tr (Same.ofI (by decide))).tr (Same.ofL (by decide))
    · show (sI h2 155 51 (nI n)).1 155 j = _
      rw [sI_nk1 hj, (t2 155 (by decide)).1, f1 j hj]
    · show (sI h2 155 51 (nI n)).1 155 51 = _
      exact sI_s
    · show (sI h2 155 51 (nI n)).1 180 j = _
      rw [sI_ne1 (by decide)]; exact t4 j hj
  · have z : mx (vw σ (ch σ l n 0).1 (l 0) (gb σ l n (n - 1 - 0))) (σ 2) = 0 := by
      have e := Mo_vw (σ := σ) l n (n - 1) 32
      rw [show n - 1 + 1 = n by omega, show n - 1 - (n - 1) = 0 by omega, ch_0] at e
      have : mx (vw σ 32 (l 0) (gb σ l n (n - 1))) (σ 2) = 0 := by omega
      exact this
    refine ⟨sL (sI h1 155 51 (nI 0)) 155 52 (lN 0), ?_, S1.tr (Same.ofL (by decide)), f1, ?_, fun q => absurd q hz⟩
    · rw [E]
      refine sq4 0 (fun _ => nI 0) (fun _ => lN 0) (fun i => nI i) (fun _ => sI h1 155 51 (nI 0)) (fun self => ?_) (fun self i hi => by omega) (by omega) rfl rfl rfl rfl
      rw [st 0 (nI 0) (lN 0) _ self (by omega) (Or.inl ⟨rfl, rfl⟩) Same.rf, if_pos rfl]
      unfold B_X13_likely_302 c8
      rw [z, if_neg (Nat.lt_irrefl 0), if_neg (by decide)]
      rfl
    · rw [sL_s, show gb σ l n n 5 = 0 by omega]
theorem m_sure {v : Nat} {x2 : Int32} (ms : ∀ k, k < 713 → h.1 157 k = nI (σ k)) (H : TgOk σ nm) (hv : v < 256) (h1 : h.1 179 1 = nI 0) (h2 : h.1 179 2 = nI 0) (kk : Hp → Option (Int64 × Hp)) : ∃ h', itr2 (F_X13_torn_167 x2 (nI v) kk) N0 (nI 0) h = kk h' ∧ Same [179] h h' ∧ h'.2 = h.2 ∧ h'.1 179 0 = h.1 179 0 ∧ h'.1 179 1 = nI (bts (suB v true) (σ 1)) ∧ h'.1 179 2 = nI (bts (suB v false) (σ 1)) := by
  have s3 := H.1.2.1
  have m1 := ms 1 (by omega)
  by_cases h0 : v = 0
  · refine ⟨h, ?_, Same.rf, rfl, rfl, ?_, ?_⟩
    · refine sq2 0 (fun i => nI i) (fun _ => h) (fun self => ?_) (fun self i hi => by omega) (by omega) rfl rfl
      unfold F_X13_torn_167
      by_cases q : σ 1 = 0
      · simp (disch := omega) only [li_0, li_1, li_2, li_3, li_4, li_5, li_6, li_7, li_8, li_9, li_10, li_12, li_13, li_14, li_15, li_16, li_20, li_24, li_25, li_31, li_32, li_40, li_48, li_54, li_56, li_64, li_72, li_97, li_99, li_100, li_112, li_122, li_144, li_145, li_155, li_157, li_200, li_216, li_255, li_256, li_432, li_437, li_438, li_462, li_463, li_713, li_900, li_940, lL_0, lL_1, lL_255, lL_1099511627776, neg_1, ltT, ltF, leT, leF, eqT, eqF, ltMT, ltMF, leMT, leMF, eqMF, eqMF', addM, inbT, clp, nI_add, subN, pk_mul, nzT, remN, shl1, bitN, bit0, bit1, lcE, lcLE, lcLT, LleT, LleF, LltT, LltF, LeqT, LeqF, ↓bndS, ↓bnvS, ↓lt_s1, bndS, bnvS, eq_self, ↓reduceIte, m1, q]
      · simp (disch := omega) only [li_0, li_1, li_2, li_3, li_4, li_5, li_6, li_7, li_8, li_9, li_10, li_12, li_13, li_14, li_15, li_16, li_20, li_24, li_25, li_31, li_32, li_40, li_48, li_54, li_56, li_64, li_72, li_97, li_99, li_100, li_112, li_122, li_144, li_145, li_155, li_157, li_200, li_216, li_255, li_256, li_432, li_437, li_438, li_462, li_463, li_713, li_900, li_940, lL_0, lL_1, lL_255, lL_1099511627776, neg_1, ltT, ltF, leT, leF, eqT, eqF, ltMT, ltMF, leMT, leMF, eqMF, eqMF', addM, inbT, clp, nI_add, subN, pk_mul, nzT, remN, shl1, bitN, bit0, bit1, lcE, lcLE, lcLT, LleT, LleF, LltT, LltF, LeqT, LeqF, ↓bndS, ↓bnvS, ↓lt_s1, bndS, bnvS, eq_self, ↓reduceIte, m1, h0]
    · rw [h1, bts_no (fun k => by unfold suB; rw [h0]; rfl)]
    · rw [h2, bts_no (fun k => by unfold suB; rw [h0]; rfl)]
  · have dv : decide (v ≠ 0) = true := decide_eq_true h0
    obtain ⟨h', e, w1, w2, w3, w4, w5⟩ := loop2n (F := F_X13_torn_167 x2 (nI v) kk) (k := kk) (σ 1) (fun k g => Same [179] h g ∧ g.2 = h.2 ∧ g.1 179 0 = h.1 179 0 ∧ g.1 179 1 = nI (bts (suB v true) k) ∧ g.1 179 2 = nI (bts (suB v false) k)) (fun self g ⟨q1, q2, q3, q4, q5⟩ => by
        have g1 : g.1 157 1 = nI (σ 1) := by rw [(q1 157 (by decide)).1]; exact m1
        unfold F_X13_torn_167
        simp (disch := omega) only [li_0, li_1, li_2, li_3, li_4, li_5, li_6, li_7, li_8, li_9, li_10, li_12, li_13, li_14, li_15, li_16, li_20, li_24, li_25, li_31, li_32, li_40, li_48, li_54, li_56, li_64, li_72, li_97, li_99, li_100, li_112, li_122, li_144, li_145, li_155, li_157, li_200, li_216, li_255, li_256, li_432, li_437, li_438, li_462, li_463, li_713, li_900, li_940, lL_0, lL_1, lL_255, lL_1099511627776, neg_1, ltT, ltF, leT, leF, eqT, eqF, ltMT, ltMF, leMT, leMF, eqMF, eqMF', addM, inbT, clp, nI_add, subN, pk_mul, nzT, remN, shl1, bitN, bit0, bit1, lcE, lcLE, lcLT, LleT, LleF, LltT, LltF, LeqT, LeqF, ↓bndS, ↓bnvS, ↓lt_s1, bndS, bnvS, eq_self, ↓reduceIte, g1]) (fun self k g hk ⟨q1, q2, q3, q4, q5⟩ => by
        have g1 : g.1 157 1 = nI (σ 1) := by rw [(q1 157 (by decide)).1]; exact m1
        have A1 : ∀ g : Hp, f_X13_isAll (nI v) (nI k) (nI 1) g = some (nI (allP (alP v k true) 0 8).toNat, g) := fun g => m_isAll (s := true) hv (by omega)
        have A0 : ∀ g : Hp, f_X13_isAll (nI v) (nI k) (nI 0) g = some (nI (allP (alP v k false) 0 8).toNat, g) := fun g => m_isAll (s := false) hv (by omega)
        have sa : suB v true k = allP (alP v k true) 0 8 := by unfold suB; rw [dv, Bool.true_and]
        have sb : suB v false k = allP (alP v k false) 0 8 := by unfold suB; rw [dv, Bool.true_and]
        refine ⟨sI (sI g 179 1 (nI (bts (suB v true) (k + 1)))) 179 2 (nI (bts (suB v false) (k + 1))), ?_, (q1.tr (Same.ofI (by decide))).tr (Same.ofI (by decide)), q2, by rw [sI_nk1 (by decide), sI_nk1 (by decide)]; exact q3, by rw [sI_nk1 (by decide)]; exact sI_s, sI_s⟩
        have c4 : ∀ y, (sI g 179 1 y).1 179 2 = nI (bts (suB v false) k) := fun y => by rw [sI_nk1 (by decide)]; exact q5
        rw [bts_s, bts_s, sa, sb]
        unfold F_X13_torn_167 B_X13_torn_209 B_X13_torn_237
        cases c1 : allP (alP v k true) 0 8 <;> cases c2 : allP (alP v k false) 0 8
        all_goals
          simp (disch := omega) only [li_0, li_1, li_2, li_3, li_4, li_5, li_6, li_7, li_8, li_9, li_10, li_12, li_13, li_14, li_15, li_16, li_20, li_24, li_25, li_31, li_32, li_40, li_48, li_54, li_56, li_64, li_72, li_97, li_99, li_100, li_112, li_122, li_144, li_145, li_155, li_157, li_200, li_216, li_255, li_256, li_432, li_437, li_438, li_462, li_463, li_713, li_900, li_940, lL_0, lL_1, lL_255, lL_1099511627776, neg_1, ltT, ltF, leT, leF, eqT, eqF, ltMT, ltMF, leMT, leMF, eqMF, eqMF', addM, inbT, clp, nI_add, subN, pk_mul, nzT, remN, shl1, bitN, bit0, bit1, lcE, lcLE, lcLT, LleT, LleF, LltT, LltF, LeqT, LeqF, ↓bndS, ↓bnvS, ↓lt_s1, bndS, bnvS, eq_self, ↓reduceIte, g1, h0, A1, A0, c1, c2, q4, c4, fa_or, Bool.true_eq_false, Bool.false_eq_true, Nat.or_zero]) h ⟨Same.rf, rfl, rfl, h1, h2⟩ (by omega)
    exact ⟨h', e, w1, w2, w3, w4, w5⟩
/-! how the SAYINGS left are laid on the places -/
def gdB (σ : Nat → Nat) (b : Nat) (tp : List Nat) (i : Nat) : Bool := stk (σ 3) (σ 4) b (i + 1) || (decide (cu (σ 3) (σ 4) b i < tp.length) && decide (tp.getD (cu (σ 3) (σ 4) b i) 0 < σ 2))
theorem cu_hit {e r b : Nat} : ∀ n q, q < cu e r b n → ∃ i, i < n ∧ stk e r b (i + 1) = false ∧ cu e r b i = q
  | 0, q, hq => absurd hq (Nat.not_lt_zero _)
  | n + 1, q, hq => by
    by_cases h1 : q < cu e r b n
    · obtain ⟨i, a, b⟩ := cu_hit n q h1
      exact ⟨i, by omega, b⟩
    · have ee : cu e r b (n + 1) = cu e r b n + (if stk e r b (n + 1) = true then 0 else 1) := rfl
      rw [ee] at hq
      cases hs : stk e r b (n + 1)
      · rw [hs, if_neg (by decide)] at hq
        exact ⟨n, by omega, hs, by omega⟩
      · rw [hs, if_pos rfl] at hq
        omega
theorem gd_all {b n : Nat} (hn : n ≤ 12) : (okR σ tp 12 ∧ cu (σ 3) (σ 4) b n = tp.length) ↔ ((∀ i, i < n → gdB σ b tp i = true) ∧ cu (σ 3) (σ 4) b n = tp.length) := by
  constructor
  · intro ⟨⟨h1, h2⟩, h3⟩
    refine ⟨fun i hi => ?_, h3⟩
    unfold gdB
    cases hs : stk (σ 3) (σ 4) b (i + 1)
    · have cm := cu_mono (σ 3) (σ 4) b (i := i + 1) (n - (i + 1))
      rw [show i + 1 + (n - (i + 1)) = n by omega] at cm
      have e : cu (σ 3) (σ 4) b (i + 1) = cu (σ 3) (σ 4) b i + (if stk (σ 3) (σ 4) b (i + 1) = true then 0 else 1) := rfl
      rw [hs, if_neg (by decide)] at e
      rw [decide_eq_true (show cu (σ 3) (σ 4) b i < tp.length by omega), decide_eq_true (h2 _ (by omega))]
      rfl
    · rfl
  · intro ⟨h1, h3⟩
    refine ⟨⟨by have := cu_le (σ 3) (σ 4) b n; omega, fun q hq => ?_⟩, h3⟩
    obtain ⟨i, a1, a2, a3⟩ := cu_hit n q (by rw [h3]; exact hq)
    have := h1 i a1
    unfold gdB at this
    rw [a2, a3, Bool.false_or, Bool.and_eq_true, decide_eq_true_eq, decide_eq_true_eq] at this
    exact this.2
theorem m_tornS {b n i : Nat} {k98 : Hp → Option (Int64 × Hp)} {kk : Int32 → Hp → Option (Int64 × Hp)} {self : Int32 → Int32 → Hp → Option (Int64 × Hp)} (a1 : h.1 155 25 = nI (σ 3)) (a2 : h.1 155 26 = nI (σ 4)) (a3 : h.1 155 3 = nI tp.length) (a4 : lsB (h.1 156) tp) (a5 : h.1 157 2 = nI (σ 2)) (H : TgOk σ nm) (ht : tp.length ≤ 940) (hb : ∀ x ∈ tp, x < 256) (b1 : b < 1000) (hi : i < n) (hn : n ≤ 12) : (gdB σ b tp i = true → ∃ h', F_X13_torn_49 (nI b) (nI n) k98 kk self (nI (cu (σ 3) (σ 4) b i)) (nI i) h = self (nI (cu (σ 3) (σ 4) b (i + 1))) (nI (i + 1)) h' ∧ Same [178] h h' ∧ h'.2 = h.2 ∧ h'.1 178 i = lI (lT (σ 3) (σ 4) b tp i) ∧ ∀ j, j ≠ i → h'.1 178 j = h.1 178 j) ∧ (gdB σ b tp i = false → F_X13_torn_49 (nI b) (nI n) k98 kk self (nI (cu (σ 3) (σ 4) b i)) (nI i) h = k98 (sI h 178 i (-1))) := by
  obtain ⟨-, -, h8, e3, e3', e4, e4'⟩ := H.1
  have cl := cu_le (σ 3) (σ 4) b i
  have S1 : Same [178] h (sI h 178 i (-1)) := Same.ofI (by decide)
  have st := m_isStruck (h := sI h 178 i (-1)) (b := b) (p := i + 1) (e := σ 3) (r := σ 4) (by rw [(S1 155 (by decide)).1]; exact a1) (by rw [(S1 155 (by decide)).1]; exact a2) (by omega) (by omega) (by omega) b1 (by omega)
  have g3 : (sI h 178 i (-1)).1 155 3 = nI tp.length := by rw [(S1 155 (by decide)).1]; exact a3
  have g2 : (sI h 178 i (-1)).1 157 2 = nI (σ 2) := by rw [(S1 157 (by decide)).1]; exact a5
  have cs : cu (σ 3) (σ 4) b (i + 1) = cu (σ 3) (σ 4) b i + (if stk (σ 3) (σ 4) b (i + 1) = true then 0 else 1) := rfl
  unfold gdB F_X13_torn_49
  rw [if_neg (nI_ge hi (by omega)), if_pos (inb_nI (by omega) (by decide)), lt_s1, clp (by omega), nI_1, st, bndS]
  cases hs : stk (σ 3) (σ 4) b (i + 1)
  · rw [hs, if_neg (by decide)] at cs
    rw [if_pos (show nI false.toNat = 0 from rfl), g3, Bool.false_or]
    by_cases c1 : cu (σ 3) (σ 4) b i < tp.length
    · have oc := m_octet (h := sI h 178 i (-1)) (i := cu (σ 3) (σ 4) b i) (by rw [(S1 156 (by decide)).1]; exact a4) c1 ht hb
      have b6 : tp.getD (cu (σ 3) (σ 4) b i) 0 < 256 := getD_P c1 hb
      rw [if_neg (nI_ge c1 (by omega)), oc, bndS, decide_eq_true c1, Bool.true_and]
      by_cases c2 : tp.getD (cu (σ 3) (σ 4) b i) 0 < σ 2
      · rw [decide_eq_true c2]
        refine ⟨fun _ => ⟨sI (sI h 178 i (-1)) 178 i (nI (tp.getD (cu (σ 3) (σ 4) b i) 0)), ?_, S1.tr (Same.ofI (by decide)), rfl, ?_, fun j hj => by rw [sI_nk1 hj, sI_nk1 hj]⟩, fun z => by cases z⟩
        · rw [m_sayT g2 c2 (by omega), bndS, if_neg (by decide), oc, bndS, if_pos (inb_nI (by omega) (by decide)), lt_s1, nI_1, cs]
        · rw [sI_s]
          unfold lT
          rw [hs]
          rfl
      · rw [decide_eq_false c2]
        refine ⟨fun z => (by cases z), fun _ => ?_⟩
        rw [m_sayN g2 (by omega) (by omega) (by omega), bndS, if_pos (show nI 0 = 0 from rfl)]
    · rw [decide_eq_false c1, Bool.false_and, if_pos (nI_le (by omega) (by omega))]
      exact ⟨fun z => (by cases z), fun _ => rfl⟩
  · rw [hs, if_pos rfl] at cs
    rw [if_neg (show ¬ nI true.toNat = 0 by decide), Bool.true_or]
    refine ⟨fun _ => ⟨sI h 178 i (-1), ?_, S1, rfl, ?_, fun j hj => sI_nk1 hj⟩, fun z => by cases z⟩
    · rw [cs]
      rfl
    · rw [sI_s]
      unfold lT
      rw [hs]
      rfl
end TORNB
