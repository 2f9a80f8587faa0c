section TOKE
variable {tp : List Nat} {σ : Nat → Nat} {nm : Nat → List Nat} {h h' : Hp}
theorem sI_ne1' {h : Hp} {a k : Nat} {v : Int32} {b : Nat} (hb : b ≠ a) : (sI h a k v).1 b = h.1 b := funext fun j => sI_ne1 hb
theorem tkB_end {L p : Nat} (hp : min tp.length L ≤ p) : tkB tp L p = min tp.length L := by
  unfold tkB
  have : p ≤ to1 isBl tp tp.length p := Nat.le_add_right _ _
  omega
theorem m_nextT {L p : Nat} (T : Tp tp) (hL : L ≤ 1000) (hp : p ≤ tp.length) (B : MTk tp L p h) : ∃ h' q, f_X13_next h = some h' ∧ Same [155] h h' ∧ (∀ j, j ∉ [4, 10, 11, 12, 13] → h'.1 155 j = h.1 155 j) ∧ (∀ j, j ≠ 16 → h'.2.1 155 j = h.2.1 155 j) ∧ h'.2.2 = h.2.2 ∧ q ≤ tp.length ∧ MTk tp L q h' ∧ tkB tp L q = tkB tp L (tkX tp L (tkB tp L p)) ∧ h'.1 155 10 = nI (tkR tp L (tkB tp L p)) ∧ h'.1 155 11 = nI (tkB tp L p) ∧ (tkR tp L (tkB tp L p) = 1 → h'.2.1 155 16 = lN (nmM (tkN tp (tkB tp L p) (tkE tp (tkB tp L p) - tkB tp L p)))) ∧ (tkR tp L (tkB tp L p) = 2 → h'.1 155 13 = nI (tkV tp (tkB tp L p) (tkE tp (tkB tp L p) - tkB tp L p))) ∧ (tkR tp L (tkB tp L p) = 3 → h'.1 155 13 = nI 59) := by
  have t9 := T.1
  obtain ⟨b3, b4, b5, bl⟩ := B
  have bb := to1_b (tp := tp) (f := isBl) hp
  obtain ⟨s, hs⟩ : ∃ s, s = tkB tp L p := ⟨_, rfl⟩
  obtain ⟨z, hz⟩ : ∃ z, z = to1 isBl tp tp.length p := ⟨_, rfl⟩
  have es : s = min z (min tp.length L) := by rw [hs, hz]; rfl
  obtain ⟨h1, E1, u1, u2, u3, u4⟩ := m_next0 T b3 b4 bl hp (fun h8 => lt (sI h8 155 11 (h8.1 155 4)) fun h9 => lt (sI h9 155 12 0) fun h10 => (if (h10.1 155 3) ≤ (h10.1 155 5) then B_X13_next_80 h10 else if (h10.1 155 4) < (h10.1 155 5) then B_X13_next_80 h10 else lt (sI h10 155 11 (h10.1 155 5)) fun h64 => lt (sI h64 155 10 4) fun h65 => some h65))
  rw [← hz] at u4 bb
  obtain ⟨g, hg⟩ : ∃ g, g = sI (sI h1 155 11 (nI z)) 155 12 (nI 0) := ⟨_, rfl⟩
  have Sg : Same [155] h g := by rw [hg]; exact (u1.tr (Same.ofI (by decide))).tr (Same.ofI (by decide))
  have gI : ∀ j, j ≠ 4 → j ≠ 11 → j ≠ 12 → g.1 155 j = h.1 155 j := fun j j1 j2 j3 => by rw [hg, sI_nk1 j3, sI_nk1 j2]; exact u3 j j1
  have g2 : g.2 = h.2 := by rw [hg]; exact u2
  have g3 : g.1 155 3 = nI tp.length := by rw [gI 3 (by decide) (by decide) (by decide)]; exact b3
  have g5 : g.1 155 5 = nI L := by rw [gI 5 (by decide) (by decide) (by decide)]; exact b5
  have g4 : g.1 155 4 = nI z := by rw [hg, sI_nk1 (by decide), sI_nk1 (by decide)]; exact u4
  have g11 : g.1 155 11 = nI z := by rw [hg, sI_nk1 (by decide)]; exact sI_s
  have g12 : g.1 155 12 = nI 0 := by rw [hg]; exact sI_s
  have gl : lsB (g.1 156) tp := by rw [(Sg 156 (by decide)).1]; exact bl
  have E2 : f_X13_next h = (if nI tp.length ≤ nI L then B_X13_next_80 g else if nI z < nI L then B_X13_next_80 g else lt (sI g 155 11 (nI L)) fun h64 => lt (sI h64 155 10 4) fun h65 => some h65) := by
    unfold f_X13_next
    rw [E1, u4, lt_s1, li_0, lt_s1, ← hg, g3, g4, g5]
  rw [← hs]
  by_cases hn : tp.length ≤ L ∨ z < L
  · have E3 : f_X13_next h = B_X13_next_80 g := by
      rw [E2]
      by_cases h1 : tp.length ≤ L
      · rw [if_pos (nI_le h1 (by omega))]
      · rw [if_neg (nI_ge (by omega) (by omega)), if_pos (nI_lt (by omega) (by omega))]
    have ez : s = z := by omega
    have pk := m_peek (h := g) (q := z) T g3 g4 gl (by omega)
    rw [E3]
    unfold B_X13_next_80
    rw [pk, bndS]
    by_cases hlt : z < tp.length
    · rw [if_pos hlt]
      have c2 := T.b z
      have hto : s < min tp.length L := by omega
      have eR : tkR tp L s = tkK tp s := if_pos hto
      have eX : tkX tp L s = max (tkE tp s) (s + 1) := if_pos hto
      have be : s ≤ tkE tp s ∧ tkE tp s ≤ tp.length := to1_b (f := isWd) (by omega)
      have sm := m_isSmall (h := g) c2
      have dg := m_isDigit (h := g) c2
      rw [eR, eX, if_pos (show (0 : Int32) ≤ nI (tp.getD z 0) from nI_le (a := 0) (by omega) (by omega)), sm, bndS]
      rw [← ez] at sm dg c2 g4 g11 ⊢
      by_cases hw : isWd (tp.getD s 0) = true
      · have m0 : 0 < tkE tp s - s := by
          by_cases q : tkE tp s = s
          · have := to1_at (f := isWd) (tp := tp) (n := tp.length) (p := s) (show tkE tp s < tp.length by omega)
            rw [show to1 isWd tp tp.length s = s from q, hw] at this
            cases this
          · omega
        have SA : Same [155] g (sI (sL g 155 16 (lN 0)) 155 13 (nI 0)) := (Same.ofL (by decide)).tr (Same.ofI (by decide))
        obtain ⟨h5, E5, v1, v2, v3, v0, v4, v5, v6, v7⟩ := m_next157 (h := sI (sL g 155 16 (lN 0)) 155 13 (nI 0)) (s := s) T (by rw [sI_nk1 (by decide)]; exact g3) (by rw [sI_nk1 (by decide)]; exact g4) (by rw [(SA 156 (by decide)).1]; exact gl) (by omega) (by rw [sI_nk1 (by decide)]; exact g12) sI_s sL_s (fun v49 h48 => if v49 = 0 then B_X13_next_309 4 h48 else if nI (isLt (tp.getD s 0)).toNat = 0 then B_X13_next_293 (nI (isLt (tp.getD s 0)).toNat) 2 (h48.1 155 12) h48 else B_X13_next_293 (nI (isLt (tp.getD s 0)).toNat) 6 (h48.1 155 12) h48)
        have E6 : B_X13_next_140 (nI (tp.getD s 0)) g = some (sI h5 155 10 (nI (tkK tp s))) := by
          unfold B_X13_next_140
          rw [sm, bndS, lL_0, lt_s1, li_0, li_1, lt_s1]
          rw [li_0] at E5
          rw [E5, v5]
          have cs := cnt_sum (tp := tp) (s := s) (tkE tp s - s) (fun j hj => tk_in hj)
          have c0 : ∀ f : Nat → Bool, f (tp.getD s 0) = true → 0 < cnt f tp s (tkE tp s - s) := fun f hf => by
            by_cases q : cnt f tp s (tkE tp s - s) = 0
            · have := cnt_0 (f := f) (tp := tp) (s := s) _ q 0 m0
              rw [Nat.add_zero, hf] at this; cases this
            · omega
          unfold flg tkK
          rw [if_neg (show ¬ tkE tp s - s = 0 by omega)]
          rcases lw _ hw with ⟨a, b⟩ | ⟨a, b⟩
          · have := c0 isLt a
            rw [a, if_pos rfl]
            by_cases q : cnt isDg tp s (tkE tp s - s) = 0
            · rw [decide_eq_true q, if_pos q, if_neg (by decide), if_neg (by decide)]
              unfold B_X13_next_293 B_X13_next_309
              by_cases q2 : 6 < tkE tp s - s
              · rw [if_pos q2, if_neg (show ¬ nI (tkE tp s - s) ≤ 6 from nI_ge (a := 6) (by omega) (by omega)), lt_s1]; rfl
              · rw [if_neg q2, if_pos (show nI (tkE tp s - s) ≤ 6 from nI_le (b := 6) (by omega) (by omega)), if_neg (by decide), lt_s1]; rfl
            · rw [decide_eq_false q, if_neg q, if_pos (by decide), if_neg (show ¬ cnt isLt tp s (tkE tp s - s) = 0 by omega)]
              unfold B_X13_next_309
              rw [lt_s1]; rfl
          · have := c0 isDg b
            rw [a, if_neg (show ¬ false = true by decide), if_neg (show ¬ cnt isDg tp s (tkE tp s - s) = 0 by omega)]
            by_cases q : cnt isLt tp s (tkE tp s - s) = 0
            · rw [decide_eq_true q, if_pos q, if_neg (by decide), if_pos (by decide)]
              unfold B_X13_next_293 B_X13_next_309
              by_cases q2 : 2 < tkE tp s - s
              · rw [if_pos q2, if_neg (show ¬ nI (tkE tp s - s) ≤ 2 from nI_ge (a := 2) (by omega) (by omega)), lt_s1]; rfl
              · rw [if_neg q2, if_pos (show nI (tkE tp s - s) ≤ 2 from nI_le (b := 2) (by omega) (by omega)), if_pos (by decide), lt_s1]; rfl
            · rw [decide_eq_false q, if_neg q, if_pos (by decide)]
              unfold B_X13_next_309
              rw [lt_s1]; rfl
        have k3 : tkK tp s ≠ 3 := by
          unfold tkK
          rw [if_neg (show ¬ tkE tp s - s = 0 by omega)]
          by_cases q : cnt isDg tp s (tkE tp s - s) = 0
          · rw [if_pos q]
            by_cases q2 : 6 < tkE tp s - s
            · rw [if_pos q2]; omega
            · rw [if_neg q2]; omega
          · rw [if_neg q]
            by_cases q1 : cnt isLt tp s (tkE tp s - s) = 0
            · rw [if_pos q1]
              by_cases q2 : 2 < tkE tp s - s
              · rw [if_pos q2]; omega
              · rw [if_neg q2]; omega
            · rw [if_neg q1]; omega
        refine ⟨sI h5 155 10 (nI (tkK tp s)), tkE tp s, ?_, ((Sg.tr SA).tr v1).tr (Same.ofI (by decide)), fun j hj => ?_, fun j hj => ?_, ?_, be.2, ⟨?_, ?_, ?_, ?_⟩, ?_, sI_s, ?_, fun k1 => ?_, fun k2 => ?_, fun z => absurd z k3⟩
        · rcases lw _ hw with ⟨a, b⟩ | ⟨a, b⟩
          · rw [a, if_neg (by decide), E6]
          · rw [a, if_pos (by decide), dg, bndS, b, if_neg (by decide), E6]
        · simp only [List.mem_cons, List.not_mem_nil, or_false, not_or] at hj
          obtain ⟨j1, j2, j3, j4, j5⟩ := hj
          rw [sI_nk1 j2, v2 j j1 j4 j5, sI_nk1 j5]
          exact gI j j1 j3 j4
        · show h5.2.1 155 j = _
          rw [v3 j hj]
          show (sL g 155 16 (lN 0)).2.1 155 j = _
          rw [sL_nk1 hj, g2]
        · show h5.2.2 = _
          rw [v0]
          show g.2.2 = _
          rw [g2]
        · rw [sI_nk1 (by decide), v2 3 (by decide) (by decide) (by decide), sI_nk1 (by decide)]; exact g3
        · rw [sI_nk1 (by decide)]; exact v4
        · rw [sI_nk1 (by decide), v2 5 (by decide) (by decide) (by decide), sI_nk1 (by decide)]; exact g5
        · rw [sI_ne1' (by decide), (v1 156 (by decide)).1, (SA 156 (by decide)).1]; exact gl
        · rw [Nat.max_eq_left (by omega)]
        · rw [sI_nk1 (by decide), v2 11 (by decide) (by decide) (by decide), sI_nk1 (by decide)]; exact g11
        · obtain ⟨y1, y2, -⟩ := tkK_1 k1
          exact v6 y1 y2
        · obtain ⟨y1, y2, -⟩ := tkK_2 k2
          rw [sI_nk1 (by decide)]; exact v7 y1 y2
      · have hw2 : isLt (tp.getD s 0) = false ∧ isDg (tp.getD s 0) = false := by
          unfold isWd at hw
          rw [Bool.not_eq_true, Bool.or_eq_false_iff] at hw
          exact hw
        have m0 : tkE tp s = s := by
          by_cases q : tkE tp s = s
          · exact q
          · have := to1_in (f := isWd) (tp := tp) (n := tp.length) (p := s) (i := 0) (show s + 0 < tkE tp s by omega)
            rw [Nat.add_zero] at this
            exact absurd this hw
        have ek : tkK tp s = if tp.getD s 0 = 59 then 3 else 4 := by
          unfold tkK
          rw [if_pos (by omega)]
        refine ⟨sI (sI (sI g 155 10 (nI (tkK tp s))) 155 13 (nI (tp.getD s 0))) 155 4 (nI (s + 1)), s + 1, ?_, ((Sg.tr (Same.ofI (by decide))).tr (Same.ofI (by decide))).tr (Same.ofI (by decide)), fun j hj => ?_, fun j hj => ?_, ?_, by omega, ⟨?_, sI_s, ?_, ?_⟩, ?_, ?_, ?_, fun k1 => ?_, fun k2 => ?_, fun k3 => ?_⟩
        · rw [hw2.1, if_pos (by decide), dg, bndS, hw2.2, if_pos (by decide), ek]
          have F : ∀ t0 : Nat, B_X13_next_121 (nI (tp.getD s 0)) (nI t0) g = some (sI (sI (sI g 155 10 (nI t0)) 155 13 (nI (tp.getD s 0))) 155 4 (nI (s + 1))) := fun t0 => by
            unfold B_X13_next_121
            rw [lt_s1, lt_s1, show (sI (sI g 155 10 (nI t0)) 155 13 (nI (tp.getD s 0))).1 155 4 = nI s by rw [sI_nk1 (by decide), sI_nk1 (by decide)]; exact g4, nI_1, lt_s1]
          by_cases q : tp.getD s 0 = 59
          · rw [if_pos (show nI (tp.getD s 0) = 59 by rw [q]; rfl), if_pos q]
            exact F 3
          · rw [if_neg (show ¬ nI (tp.getD s 0) = 59 from fun z => q ((nI_eq (b := 59) (by omega) (by omega)).mp z)), if_neg q]
            exact F 4
        · simp only [List.mem_cons, List.not_mem_nil, or_false, not_or] at hj
          obtain ⟨j1, j2, j3, j4, j5⟩ := hj
          rw [sI_nk1 j1, sI_nk1 j5, sI_nk1 j2]
          exact gI j j1 j3 j4
        · show g.2.1 155 j = _
          rw [g2]
        · show g.2.2 = _
          rw [g2]
        · rw [sI_nk1 (by decide), sI_nk1 (by decide), sI_nk1 (by decide)]; exact g3
        · rw [sI_nk1 (by decide), sI_nk1 (by decide), sI_nk1 (by decide)]; exact g5
        · rw [sI_ne1' (by decide), sI_ne1' (by decide), sI_ne1' (by decide)]; exact gl
        · rw [m0, Nat.max_eq_right (by omega)]
        · rw [sI_nk1 (by decide), sI_nk1 (by decide)]; exact sI_s
        · rw [sI_nk1 (by decide), sI_nk1 (by decide), sI_nk1 (by decide)]; exact g11
        · obtain ⟨-, -, y⟩ := tkK_1 k1
          omega
        · obtain ⟨-, -, y⟩ := tkK_2 k2
          omega
        · rw [sI_nk1 (by decide), sI_s]
          rw [ek] at k3
          by_cases q : tp.getD s 0 = 59
          · rw [q]
          · rw [if_neg q] at k3; omega
    · rw [if_neg hlt, if_neg (by decide), lt_s1]
      have h1 : tp.length ≤ L := by omega
      have nto : ¬ s < min tp.length L := by omega
      have eR : tkR tp L s = 0 := by unfold tkR; rw [if_neg nto, if_pos h1]
      have eX : tkX tp L s = s + 1 := if_neg nto
      rw [eR, eX]
      refine ⟨sI g 155 10 0, z, rfl, Sg.tr (Same.ofI (by decide)), fun j hj => ?_, fun j hj => ?_, ?_, by omega, ⟨?_, ?_, ?_, ?_⟩, ?_, sI_s, ?_, fun k1 => by omega, fun k1 => by omega, fun k1 => by omega⟩
      · simp only [List.mem_cons, List.not_mem_nil, or_false, not_or] at hj
        obtain ⟨j1, j2, j3, j4, j5⟩ := hj
        rw [sI_nk1 j2]
        exact gI j j1 j3 j4
      · show g.2.1 155 j = _
        rw [g2]
      · show g.2.2 = _
        rw [g2]
      · rw [sI_nk1 (by decide)]; exact g3
      · rw [sI_nk1 (by decide)]; exact g4
      · rw [sI_nk1 (by decide)]; exact g5
      · rw [sI_ne1' (by decide)]; exact gl
      · rw [tkB_end (by omega), tkB_end (by omega)]
      · rw [sI_nk1 (by decide), ez]; exact g11
  · have nto : ¬ s < min tp.length L := by omega
    have sl : s = L := by omega
    have eR : tkR tp L s = 4 := by unfold tkR; rw [if_neg nto, if_neg (by omega)]
    have eX : tkX tp L s = s + 1 := if_neg nto
    rw [eR, eX]
    refine ⟨sI (sI g 155 11 (nI L)) 155 10 (nI 4), z, ?_, (Sg.tr (Same.ofI (by decide))).tr (Same.ofI (by decide)), fun j hj => ?_, fun j hj => ?_, ?_, by omega, ⟨?_, ?_, ?_, ?_⟩, ?_, sI_s, ?_, fun k1 => by omega, fun k1 => by omega, fun k1 => by omega⟩
    · rw [E2, if_neg (nI_ge (by omega) (by omega)), if_neg (nI_nlt (by omega) (by omega)), lt_s1, lt_s1]
      rfl
    · simp only [List.mem_cons, List.not_mem_nil, or_false, not_or] at hj
      obtain ⟨j1, j2, j3, j4, j5⟩ := hj
      rw [sI_nk1 j2, sI_nk1 j3]
      exact gI j j1 j3 j4
    · show g.2.1 155 j = _
      rw [g2]
    · show g.2.2 = _
      rw [g2]
    · rw [sI_nk1 (by decide), sI_nk1 (by decide)]; exact g3
    · rw [sI_nk1 (by decide), sI_nk1 (by decide)]; exact g4
    · rw [sI_nk1 (by decide), sI_nk1 (by decide)]; exact g5
    · rw [sI_ne1' (by decide), sI_ne1' (by decide)]; exact gl
    · rw [tkB_end (by omega), tkB_end (by omega)]
    · rw [sI_nk1 (by decide), sI_s, sl]
end TOKE
