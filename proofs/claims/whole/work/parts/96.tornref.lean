section TORN7
variable {σ : Nat → Nat} {nm : Nat → List Nat} {h h' : Hp}
theorem aln154 : aln (153 + 1) = 24 := by decide
theorem lT_ok {e r b : Nat} {tp : List Nat} (ht : ∀ x ∈ tp, x < 8) : LtOk (lT e r b tp) := fun i v hv => by
  unfold lT at hv
  by_cases h1 : stk e r b (i + 1) = true
  · rw [if_pos h1] at hv; cases hv
  · rw [if_neg h1] at hv
    injection hv with hv
    rw [← hv]
    by_cases h2 : cu e r b i < tp.length
    · exact getD_P (P := fun x => x < 8) h2 ht
    · rw [List.getD_eq_getElem?_getD, List.getElem?_eq_none (by omega)]; decide
theorem c_lookL {b n : Nat} {tp : List Nat} (T : TgRep h 7 σ nm) (H : TgOk σ nm) (hb : b < 1000) (hn : n ≤ 12) (h9 : h.1 133 9 = nI n) (h7 : h.2.2 133 7 = 7) (hr : h.1 153 1 = nI tp.length) (hf : lsI (h.1 154) tp) (hc : cu (σ 3) (σ 4) b n = tp.length) (kk : Hp → Option Hp) : ∃ h', itr3 (F_X8_look_27 153 (nI b) kk) N0 (nI 0) (nI 0) h = kk h' ∧ Same [136] h h' ∧ h'.2 = h.2 ∧ ∀ j, j < n → h'.1 136 j = lI (lT (σ 3) (σ 4) b tp j) := by
  obtain ⟨-, -, -, e3, e3', e4, e4'⟩ := H.1
  have tl : tp.length ≤ 12 := by have := cu_le (σ 3) (σ 4) b n; omega
  obtain ⟨h', e, s1, s2, s3⟩ := loopQ3 (F := F_X8_look_27 153 (nI b) kk) (k := kk) n (fun i => nI (cu (σ 3) (σ 4) b i)) (fun i => nI i) (fun i g => Same [136] h g ∧ g.2 = h.2 ∧ ∀ j, j < i → g.1 136 j = lI (lT (σ 3) (σ 4) b tp j)) (fun self g ⟨q1, q2, q3⟩ => by
      have g9 : g.1 133 9 = nI n := by rw [(q1 133 (by decide)).1]; exact h9
      unfold F_X8_look_27
      rw [g9, if_pos (nI_le (Nat.le_refl _) (by omega))]) (fun self i g hi ⟨q1, q2, q3⟩ => by
      have g9 : g.1 133 9 = nI n := by rw [(q1 133 (by decide)).1]; exact h9
      have g7 : g.2.2 133 7 = 7 := by rw [q2]; exact h7
      have a1 : g.1 (7 + 2) 0 = nI (σ 3) := by rw [(q1 (7 + 2) (by decide)).1]; exact T.1.2.2.2.1
      have a2 : g.1 (7 + 2) 1 = nI (σ 4) := by rw [(q1 (7 + 2) (by decide)).1]; exact T.1.2.2.2.2
      have st := c_strikes (h := g) (x0 := 7 + 2) (b := b) (p := i + 1) a1 a2 (by omega) (by omega) (by omega) hb (by omega)
      have cl := cu_le (σ 3) (σ 4) b i
      have cm := cu_mono (σ 3) (σ 4) b (i := i + 1) (n - (i + 1))
      rw [show i + 1 + (n - (i + 1)) = n by omega] at cm
      have cs : cu (σ 3) (σ 4) b (i + 1) = cu (σ 3) (σ 4) b i + (if stk (σ 3) (σ 4) b (i + 1) = true then 0 else 1) := rfl
      have r1 : g.1 153 1 = nI tp.length := by rw [(q1 153 (by decide)).1]; exact hr
      refine ⟨sI g 136 i (lI (lT (σ 3) (σ 4) b tp i)), ?_, q1.tr (Same.ofI (by decide)), q2, fun j hj => ?_⟩
      · unfold F_X8_look_27
        rw [cs]
        unfold lT
        cases hs : stk (σ 3) (σ 4) b (i + 1)
        · rw [hs, if_neg (by decide)] at cs
          have lc2 : cu (σ 3) (σ 4) b i < tp.length := by omega
          have r2 : g.1 (153 + 1) (cu (σ 3) (σ 4) b i) = nI (tp.getD (cu (σ 3) (σ 4) b i) 0) := by rw [(q1 (153 + 1) (by decide)).1]; exact hf _ lc2
          have an : f_X7_atOrNone 153 (nI (cu (σ 3) (σ 4) b i)) g = some (nI (tp.getD (cu (σ 3) (σ 4) b i) 0), g) := by
            unfold f_X7_atOrNone
            simp (disch := omega) only [li_0, li_1, li_2, li_3, li_4, li_5, li_6, li_7, li_8, li_9, li_10, li_12, li_13, li_14, li_15, li_16, li_20, li_24, li_25, li_31, li_32, li_40, li_48, li_54, li_56, li_64, li_72, li_97, li_99, li_100, li_112, li_122, li_144, li_145, li_155, li_157, li_200, li_216, li_255, li_256, li_432, li_437, li_438, li_462, li_463, li_713, li_900, li_940, lL_0, lL_1, lL_255, lL_1099511627776, neg_1, ltT, ltF, leT, leF, eqT, eqF, ltMT, ltMF, leMT, leMF, eqMF, eqMF', addM, inbT, clp, nI_add, subN, pk_mul, nzT, remN, shl1, bitN, bit0, bit1, lcE, lcLE, lcLT, LleT, LleF, LltT, LltF, LeqT, LeqF, ↓bndS, ↓bnvS, ↓lt_s1, bndS, bnvS, eq_self, ↓reduceIte, r1, aln154, r2]
          simp (disch := omega) only [li_0, li_1, li_2, li_3, li_4, li_5, li_6, li_7, li_8, li_9, li_10, li_12, li_13, li_14, li_15, li_16, li_20, li_24, li_25, li_31, li_32, li_40, li_48, li_54, li_56, li_64, li_72, li_97, li_99, li_100, li_112, li_122, li_144, li_145, li_155, li_157, li_200, li_216, li_255, li_256, li_432, li_437, li_438, li_462, li_463, li_713, li_900, li_940, lL_0, lL_1, lL_255, lL_1099511627776, neg_1, ltT, ltF, leT, leF, eqT, eqF, ltMT, ltMF, leMT, leMF, eqMF, eqMF', addM, inbT, clp, nI_add, subN, pk_mul, nzT, remN, shl1, bitN, bit0, bit1, lcE, lcLE, lcLT, LleT, LleF, LltT, LltF, LeqT, LeqF, ↓bndS, ↓bnvS, ↓lt_s1, bndS, bnvS, eq_self, ↓reduceIte, g9, g7, isO87, st, hs, an, B_X8_look_74, Bool.false_eq_true]
          rfl
        · simp (disch := omega) only [li_0, li_1, li_2, li_3, li_4, li_5, li_6, li_7, li_8, li_9, li_10, li_12, li_13, li_14, li_15, li_16, li_20, li_24, li_25, li_31, li_32, li_40, li_48, li_54, li_56, li_64, li_72, li_97, li_99, li_100, li_112, li_122, li_144, li_145, li_155, li_157, li_200, li_216, li_255, li_256, li_432, li_437, li_438, li_462, li_463, li_713, li_900, li_940, lL_0, lL_1, lL_255, lL_1099511627776, neg_1, ltT, ltF, leT, leF, eqT, eqF, ltMT, ltMF, leMT, leMF, eqMF, eqMF', addM, inbT, clp, nI_add, subN, pk_mul, nzT, remN, shl1, bitN, bit0, bit1, lcE, lcLE, lcLT, LleT, LleF, LltT, LltF, LeqT, LeqF, ↓bndS, ↓bnvS, ↓lt_s1, bndS, bnvS, eq_self, ↓reduceIte, g9, g7, isO87, st, hs, B_X8_look_74, Bool.true_eq_false]
          rfl
      · by_cases h1 : j = i
        · subst h1; exact sI_s
        · rw [sI_nk1 h1]; exact q3 j (by omega)) h ⟨Same.rf, rfl, fun j hj => by omega⟩ (by omega)
  exact ⟨h', e, s1, s2, s3⟩
theorem c_look {b n : Nat} {tp : List Nat} (T : TgRep h 7 σ nm) (H : TgOk σ nm) (hb : b < 6) (hn : n ≤ 12) (hr : h.1 153 1 = nI tp.length) (hf : lsI (h.1 154) tp) (hc : cu (σ 3) (σ 4) b n = tp.length) (ht : ∀ x ∈ tp, x < 8) : ∃ h', f_X8_look 7 153 (nI b) (nI n) h = some h' ∧ Same [133, 134, 135, 136, 137, 138, 139] h h' ∧ h'.2.1 133 1 = lN (tot σ (lT (σ 3) (σ 4) b tp) n) ∧ h'.1 133 0 = 1 ∧ h'.1 133 2 = nI (mnt σ (xS σ (lT (σ 3) (σ 4) b tp) n)) ∧ h'.1 133 3 = nI (bts (suB (mnt σ (xS σ (lT (σ 3) (σ 4) b tp) n)) true) (σ 1)) ∧ h'.1 133 4 = nI (bts (suB (mnt σ (xS σ (lT (σ 3) (σ 4) b tp) n)) false) (σ 1)) ∧ h'.2.1 133 5 = lN (gb σ (lT (σ 3) (σ 4) b tp) n n 5) ∧ (0 < gb σ (lT (σ 3) (σ 4) b tp) n n 5 → h'.1 134 1 = nI n ∧ ∀ j, j < n → h'.1 135 j = nI (wr σ (lT (σ 3) (σ 4) b tp) n j)) := by
  obtain ⟨-, -, -, e3, e3', e4, e4'⟩ := H.1
  have hL : LtOk (lT (σ 3) (σ 4) b tp) := lT_ok ht
  have hp : pb (lT (σ 3) (σ 4) b tp) n n ≤ 10 := by rw [pb_s]; exact pbs_10 (σ 3) (by omega) (σ 4) (by omega) b hb n (by omega) e4'
  have S0 : Same [133] h (sI (sR (sI h 133 0 1) 133 7 7) 133 9 (nI n)) := ((Same.ofI (by decide)).tr (Same.ofR (by decide))).tr (Same.ofI (by decide))
  have T0 : TgRep (sI (sR (sI h 133 0 1) 133 7 7) 133 9 (nI n)) 7 σ nm := T.kept (fun a h1 h2 => by
    have := S0 a (by simp only [List.mem_cons, List.not_mem_nil, or_false]; omega)
    exact ⟨this.1, this.2.1⟩)
  have f0 : (sI (sR (sI h 133 0 1) 133 7 7) 133 9 (nI n)).1 133 0 = 1 := by rw [sI_nk1 (by decide), sR1]; exact sI_s
  obtain ⟨h1, E1, u1, u2, u3⟩ := c_lookL (b := b) (n := n) (tp := tp) T0 H (by omega) hn sI_s (by show (sR (sI h 133 0 1) 133 7 7).2.2 133 7 = 7; exact sR_s) (by rw [(S0 153 (by decide)).1]; exact hr) (by rw [(S0 154 (by decide)).1]; exact hf) hc (fun h15 => bnv (f_X8_countAll h15) fun h16 => bnv (f_X8_tellSure h16) fun h17 => bnv (f_X8_weighAll h17) fun h18 => lt (sL h18 133 5 (h18.2.1 139 ((5 : Int32).toNatClampNeg))) fun h19 => (if (lg_cmp (h19.2.1 133 5) 0) ≤ 0 then some h19 else bnv (f_X8_chooseRow h19) fun h21 => some h21))
  have B1 : TB σ nm (lT (σ 3) (σ 4) b tp) n h1 := ⟨T0.kept (fun a h1 h2 => by
    have := u1 a (by simp only [List.mem_cons, List.not_mem_nil, or_false]; omega)
    exact ⟨this.1, this.2.1⟩), by rw [u2]; show (sR (sI h 133 0 1) 133 7 7).2.2 133 7 = 7; exact sR_s, by rw [(u1 133 (by decide)).1]; exact sI_s, u3⟩
  obtain ⟨h2, E2, v1, B2, v2, v3, v4⟩ := c_countAll B1 hL H hn
  obtain ⟨h3, E3, w1, w2, w3, w4, w5⟩ := c_tellSure B2 H (mnt_lt _) v3
  have B3 : TB σ nm (lT (σ 3) (σ 4) b tp) n h3 := ⟨B2.1.kept (fun a h1 h2 => by
    have := w1 a (by simp only [List.mem_cons, List.not_mem_nil, or_false]; omega)
    exact ⟨this.1, this.2.1⟩), by rw [w2]; exact B2.2.1, by rw [w5 9 (by decide) (by decide)]; exact B2.2.2.1, by rw [(w1 136 (by decide)).1]; exact B2.2.2.2⟩
  obtain ⟨h4, E4, x1, x2, x3⟩ := c_weighAll B3 hL H hn hp
  have g5 : h4.2.1 139 5 = lN (gb σ (lT (σ 3) (σ 4) b tp) n n 5) := x3 0 (Nat.zero_le _) 5 (by decide)
  have gl : gb σ (lT (σ 3) (σ 4) b tp) n n 5 < 4611686018427387904 := Nat.lt_of_le_of_lt (gb_le H _ n n 5 (by decide)) (p60 hp)
  have S4 : Same [133, 134, 135, 136, 137, 138, 139] h (sL h4 133 5 (lN (gb σ (lT (σ 3) (σ 4) b tp) n n 5))) := by
    refine Same.tr ?_ (Same.ofL (by decide))
    refine Same.tr ?_ (x1.mono (fun a h1 => by simp only [List.mem_cons, List.not_mem_nil, or_false] at h1 ⊢; omega))
    refine Same.tr ?_ (w1.mono (fun a h1 => by simp only [List.mem_cons, List.not_mem_nil, or_false] at h1 ⊢; omega))
    refine Same.tr ?_ (v1.mono (fun a h1 => by simp only [List.mem_cons, List.not_mem_nil, or_false] at h1 ⊢; omega))
    refine Same.tr ?_ (u1.mono (fun a h1 => by simp only [List.mem_cons, List.not_mem_nil, or_false] at h1 ⊢; omega))
    exact S0.mono (fun a h1 => by simp only [List.mem_cons, List.not_mem_nil, or_false] at h1 ⊢; omega)
  have i133 : ∀ j, (sL h4 133 5 (lN (gb σ (lT (σ 3) (σ 4) b tp) n n 5))).1 133 j = h3.1 133 j := fun j => by show h4.1 133 j = _; rw [x2]
  have F0 : (sL h4 133 5 (lN (gb σ (lT (σ 3) (σ 4) b tp) n n 5))).1 133 0 = 1 := by
    rw [i133, w5 0 (by decide) (by decide), v4 0 (by decide), (u1 133 (by decide)).1]; exact f0
  have F2 : (sL h4 133 5 (lN (gb σ (lT (σ 3) (σ 4) b tp) n n 5))).1 133 2 = nI (mnt σ (xS σ (lT (σ 3) (σ 4) b tp) n)) := by rw [i133, w5 2 (by decide) (by decide)]; exact v3
  have F3 : (sL h4 133 5 (lN (gb σ (lT (σ 3) (σ 4) b tp) n n 5))).1 133 3 = _ := (i133 3).trans w3
  have F4 : (sL h4 133 5 (lN (gb σ (lT (σ 3) (σ 4) b tp) n n 5))).1 133 4 = _ := (i133 4).trans w4
  have F1 : (sL h4 133 5 (lN (gb σ (lT (σ 3) (σ 4) b tp) n n 5))).2.1 133 1 = lN (tot σ (lT (σ 3) (σ 4) b tp) n) := by
    rw [sL_nk1 (by decide), (x1 133 (by decide)).2.1, w2]; exact v2
  have E : f_X8_look 7 153 (nI b) (nI n) h = (if lg_cmp (lN (gb σ (lT (σ 3) (σ 4) b tp) n n 5)) (lN 0) ≤ nI 0 then some (sL h4 133 5 (lN (gb σ (lT (σ 3) (σ 4) b tp) n n 5))) else bnv (f_X8_chooseRow (sL h4 133 5 (lN (gb σ (lT (σ 3) (σ 4) b tp) n n 5)))) fun h21 => some h21) := by
    unfold f_X8_look
    rw [lt_s1, lt_s1, li_12, minT (by omega) (by omega), lt_s1, li_0]
    rw [li_0, lL_0] at E1
    rw [lL_0, E1, E2, bnvS, E3, bnvS, E4, bnvS, show (5 : Int32).toNatClampNeg = 5 from lc (n := 5) (by decide), g5, lt_s1, sL_s]
  simp only [lcLE] at E
  by_cases hz : 0 < gb σ (lT (σ 3) (σ 4) b tp) n n 5
  · have B4 : TB σ nm (lT (σ 3) (σ 4) b tp) n (sL h4 133 5 (lN (gb σ (lT (σ 3) (σ 4) b tp) n n 5))) := by
      have := B3.same (x1.mono (fun a h1 => by simp only [List.mem_cons, List.not_mem_nil, or_false] at h1 ⊢; omega))
      refine ⟨this.1.kept (fun a h1 h2 => ?_), this.2.1, this.2.2.1, this.2.2.2⟩
      have := (Same.ofL (X := [133]) (h := h4) (a := 133) (k := 5) (v := lN (gb σ (lT (σ 3) (σ 4) b tp) n n 5)) (by decide)) a (by simp only [List.mem_cons, List.not_mem_nil, or_false]; omega)
      exact ⟨this.1, this.2.1⟩
    obtain ⟨h5, E5, y1, y2, y3, y4⟩ := c_chooseRow B4 hL H hn (fun j hj o ho => by rw [sL_ne1 (by decide)]; exact x3 j hj o ho) hz gl sL_s
    refine ⟨h5, ?_, S4.tr (y1.mono (fun a h1 => by simp only [List.mem_cons, List.not_mem_nil, or_false] at h1 ⊢; omega)), ?_, ?_, ?_, ?_, ?_, ?_, fun _ => ⟨y3, y4⟩⟩
    · rw [E, if_neg (by rw [LleF hz (by omega)]; exact fun z => z), E5, bnvS]
    · rw [y2]; exact F1
    · rw [(y1 133 (by decide)).1]; exact F0
    · rw [(y1 133 (by decide)).1]; exact F2
    · rw [(y1 133 (by decide)).1]; exact F3
    · rw [(y1 133 (by decide)).1]; exact F4
    · rw [y2]; exact sL_s
  · refine ⟨_, ?_, S4, F1, F0, F2, F3, F4, sL_s, fun z => absurd z hz⟩
    rw [E, if_pos (by rw [LleT (by omega) (by omega)]; exact True.intro)]
end TORN7
