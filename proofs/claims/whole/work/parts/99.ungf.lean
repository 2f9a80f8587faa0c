section UNGF
variable {tp : List Nat} {ρ ρ' σ : Nat → Nat} {nS nK nm : Nat → List Nat} {h h' gc gm : Hp} {s ed ck : Nat}
theorem nbF_le (L s a b : Nat) : nbF tp L s a b ≤ 2 := by
  unfold nbF
  by_cases h1 : tkQ tp L s = 2
  · rw [if_pos h1]
    by_cases h2 : a ≤ nbr tp s ∧ nbr tp s ≤ b
    · rw [if_pos h2]; omega
    · rw [if_neg h2]; omega
  · rw [if_neg h1]; omega
theorem nbF_0 {L a b : Nat} (h0 : nbF tp L s a b = 0) : a ≤ nbr tp s ∧ nbr tp s ≤ b := by
  unfold nbF at h0
  by_cases h1 : tkQ tp L s = 2
  · rw [if_pos h1] at h0
    by_cases h2 : a ≤ nbr tp s ∧ nbr tp s ≤ b
    · exact h2
    · rw [if_neg h2] at h0; omega
  · rw [if_neg h1] at h0; omega
theorem MT1.put {L k : Nat} {v : Int32} (B : MT1 tp L s h) (hk : k ∉ [3, 4, 5, 10, 11, 13]) : MT1 tp L s (sI h 155 k v) := by
  simp only [List.mem_cons, List.not_mem_nil, or_false, not_or] at hk
  obtain ⟨⟨q, q1, ⟨m1, m2, m3, m4⟩, q3⟩, b, c, d, e, g⟩ := B
  exact ⟨⟨q, q1, ⟨by rw [sI_nk1 (Ne.symm hk.1)]; exact m1, by rw [sI_nk1 (Ne.symm hk.2.1)]; exact m2, by rw [sI_nk1 (Ne.symm hk.2.2.1)]; exact m3, by rw [sI_ne1' (by decide)]; exact m4⟩, q3⟩, by rw [sI_nk1 (Ne.symm hk.2.2.2.1)]; exact b, by rw [sI_nk1 (Ne.symm hk.2.2.2.2.1)]; exact c, d, by rw [sI_nk1 (Ne.symm hk.2.2.2.2.2)]; exact e, by rw [sI_nk1 (Ne.symm hk.2.2.2.2.2)]; exact g⟩
theorem SM.put {k : Nat} {v : Int32} (M : SM tp s ρ nS nK nm ed ck gm) (hk : k ∉ [3, 4, 5, 10, 11, 13, 14, 19, 20]) : SM tp s ρ nS nK nm ed ck (sI gm 155 k v) := by
  have hk2 := hk
  simp only [List.mem_cons, List.not_mem_nil, or_false, not_or] at hk2
  obtain ⟨c1, c2, c3, c4, c5, c6⟩ := M
  refine ⟨c1.put (fun z => hk ?_), c2.same (Same.ofI (X := [155]) (by decide)) (by decide), c3, by rw [sI_nk1 (Ne.symm hk2.2.2.2.2.2.2.2.1)]; exact c4, by rw [sI_nk1 (Ne.symm hk2.2.2.2.2.2.2.2.2)]; exact c5, by rw [sI_nk1 (Ne.symm hk2.2.2.2.2.2.2.1)]; exact c6⟩
  simp only [List.mem_cons, List.not_mem_nil, or_false] at z ⊢
  omega
/-- EDICT -/
theorem rd_edict (hs : s ≤ 900) (O : SO tp s ρ nS nK nm ed ck) (C : SC tp s ρ nS nK nm ed ck gc) (M : SM tp s ρ nS nK nm ed ck gm) : bad2 gc gm (f_X6_readEdict gc) (f_X13_readEdict gm) ∨ good2 tp s gc gm (f_X6_readEdict gc) (f_X13_readEdict gm) := by
  have O0 := O
  obtain ⟨T, R, sl, e1, c64⟩ := O
  have z0 : (0 : Int32) = 0 := rfl
  unfold f_X6_readEdict f_X13_readEdict B_X6_readEdict_14 B_X13_readEdict_14
  rw [C.2.2.2.1, C.2.2.2.2.1, M.2.2.2.1, M.2.2.2.2.1, show f_X6_refuse 3 gc = some (0, gfF gc 3 s) from c_refuse (k := 3) C.1, show f_X13_bad 3 gm = some (0, mfF gm 3 s) from m_badT (k := 3) M.1, bndS, bndS, if_pos (show isZ 0 = true by decide), if_pos (show isZ 0 = true by decide)]
  by_cases he : ed = 0
  · by_cases hc : ck = 0
    · rw [if_pos (show nI ed = 0 by rw [he]; rfl), if_pos (show nI ed = 0 by rw [he]; rfl), if_pos (show nI ck = 0 by rw [hc]; rfl), if_pos (show nI ck = 0 by rw [hc]; rfl), lt_s1]
      subst he
      subst hc
      -- the reference has set its mark already
      have M0 : SM tp s ρ nS nK nm 1 0 (sI gm 155 20 1) := ⟨M.1.put (by decide), M.2.1.same (Same.ofI (X := [155]) (by decide)) (by decide), M.2.2.1, by rw [sI_nk1 (by decide)]; exact M.2.2.2.1, sI_s, by rw [sI_nk1 (by decide)]; exact M.2.2.2.2.2⟩
      have U0 : unM gm (sI gm 155 20 1) := unM.ofI155 (by decide)
      obtain ⟨gc1, a1, a2, C1⟩ := C.adv T sl
      obtain ⟨gm1, b1, b2, b3, M1⟩ := M0.nx T
      have O1 := tkB_ok T O0
      have g1 := tkB_ge (tp := tp) (L := 900) (s := s) (by omega)
      obtain ⟨s1, hs1⟩ : ∃ s1, s1 = tkB tp 900 (tkX tp 900 s) := ⟨_, rfl⟩
      rw [← hs1] at C1 M1 O1 g1
      have s19 : s1 ≤ 900 := by rw [hs1]; exact (tkB_le tp 900 _).2
      rw [a1, b1, bnvS, bnvS, show f_X6_numberHere 2 5 gc1 = _ from c_numberHere (a := 2) (b := 5) C1.1 (by omega) (by omega), show f_X13_takes 2 5 gm1 = _ from m_takesT (a := 2) (b := 5) M1.1 (by omega) (by omega)]
      by_cases hf : nbF tp 900 s1 2 5 = 0
      · obtain ⟨n1, n2⟩ := nbF_0 hf
        rw [if_pos hf, if_pos hf, bndS, if_pos (show (0 : Int32) ≤ nI (nbr tp s1) from nI_le (a := 0) (by omega) (by omega))]
        obtain ⟨gc2, a3, a4, C2⟩ := C1.adv T O1.2.2.1
        obtain ⟨gm2, b4, b5, b6, M2⟩ := (M1.put (k := 17) (v := nI (nbr tp s1)) (by decide)).nx T
        have O2 := tkB_ok T O1
        have g2 := tkB_ge (tp := tp) (L := 900) (s := s1) (by have := O1.2.2.1; omega)
        obtain ⟨s2, hs2⟩ : ∃ s2, s2 = tkB tp 900 (tkX tp 900 s1) := ⟨_, rfl⟩
        rw [← hs2] at C2 M2 O2 g2
        have s29 : s2 ≤ 900 := by rw [hs2]; exact (tkB_le tp 900 _).2
        have t17 : gm2.1 155 17 = nI (nbr tp s1) := by rw [b6 17 (by decide)]; exact sI_s
        rw [a3, b4, bnvS, bnvS, bndS, if_neg (show ¬ (1 : Int32) = 0 by decide), show (3 : Int32).toNatClampNeg = 3 from lc (n := 3) (by decide), t17, lt_s1]
        have t17b : (sI gm2 158 3 (nI (nbr tp s1))).1 155 17 = nI (nbr tp s1) := by rw [sI_ne1 (by decide)]; exact t17
        have B3 : MT1 tp 900 s2 (sI gm2 158 3 (nI (nbr tp s1))) := M2.1.same (Same.ofI (X := [158]) (by decide)) (by decide)
        rw [t17b, li_1, subN (by omega), c_numberHere (a := 1) (b := nbr tp s1 - 1) C2.1 (by omega) (by omega), m_takesT (a := 1) (b := nbr tp s1 - 1) B3 (by omega) (by omega)]
        by_cases hf2 : nbF tp 900 s2 1 (nbr tp s1 - 1) = 0
        · obtain ⟨n3, n4⟩ := nbF_0 hf2
          obtain ⟨gx, hgx⟩ : ∃ gx, gx = sI (sI (sI gc2 144 0 (nI (nbr tp s1))) 144 1 (nI (nbr tp s2))) 4 2 1 := ⟨_, rfl⟩
          have Sx1 : Same [144] gc2 (sI (sI gc2 144 0 (nI (nbr tp s1))) 144 1 (nI (nbr tp s2))) := (Same.ofI (by decide)).tr (Same.ofI (by decide))
          have Sx2 : Same [4] (sI (sI gc2 144 0 (nI (nbr tp s1))) 144 1 (nI (nbr tp s2))) gx := by rw [hgx]; exact Same.ofI (by decide)
          have Sx : Same unC gc2 gx := (Sx1.mono (fun a h1 => by simp only [List.mem_cons, List.not_mem_nil, or_false] at h1; subst h1; decide)).tr (Sx2.mono (fun a h1 => by simp only [List.mem_cons, List.not_mem_nil, or_false] at h1; subst h1; decide))
          have Rx : RgC gx 142 (edS ρ (nbr tp s1) (nbr tp s2)) nS nK nm := (C2.2.1.edict Sx1 (by rw [sI_nk1 (by decide)]; exact sI_s) sI_s).same Sx2 (fun a h1 h2 => by simp only [List.mem_cons, List.not_mem_nil, or_false]; omega)
          have Cx : SC tp s2 (edS ρ (nbr tp s1) (nbr tp s2)) nS nK nm 1 0 gx := by
            refine ⟨(C2.1.same Sx1 (by decide)).same Sx2 (by decide), Rx, ?_, ?_, ?_, ?_⟩
            · rw [hgx]; exact C2.2.2.1
            · rw [hgx]; exact sI_s
            · rw [hgx, sI_nk1 (by decide), sI_ne1 (by decide), sI_ne1 (by decide)]; exact C2.2.2.2.2.1
            · rw [hgx, sI_nk1 (by decide), sI_ne1 (by decide), sI_ne1 (by decide)]; exact C2.2.2.2.2.2
          obtain ⟨gc3, a5, a6, C3⟩ := Cx.adv T O2.2.2.1
          obtain ⟨gm3, b7, b8, b9, b11, b10⟩ := m_nx (L := 900) T (by omega) (B3.put (k := 17) (v := nI (nbr tp s2)) (by decide))
          have g3 := tkB_ge (tp := tp) (L := 900) (s := s2) (by have := O2.2.2.1; omega)
          have t17c : gm3.1 155 17 = nI (nbr tp s2) := by rw [b9.1 17 (by decide)]; exact sI_s
          have S4 : Same [158] gm3 (sI gm3 158 4 (nI (nbr tp s2))) := Same.ofI (by decide)
          have k158 : ∀ k, gm3.1 158 k = (sI gm2 158 3 (nI (nbr tp s1))).1 158 k := fun k => by rw [(b8 158 (by decide)).1, sI_ne1 (by decide)]
          have f155 : ∀ j, j ∉ [4, 10, 11, 12, 13, 14, 15] → j ≠ 17 → gm3.1 155 j = gm2.1 155 j := fun j j1 j2 => by rw [b9.1 j j1, sI_nk1 j2, sI_ne1 (by decide)]
          have RM : RgM (sI gm3 158 4 (nI (nbr tp s2))) (edS ρ (nbr tp s1) (nbr tp s2)) nS nK nm := M2.2.1.edict (fun k k3 k4 => by rw [sI_nk1 k4, k158 k, sI_nk1 k3]) (by show gm3.2.1 159 = _; rw [(b8 159 (by decide)).2.1]; rfl) (by rw [sI_nk1 (by decide), k158 3]; exact sI_s) sI_s
          have M4 : SM tp (tkB tp 900 (tkX tp 900 s2)) (edS ρ (nbr tp s1) (nbr tp s2)) nS nK nm 1 0 (sI gm3 158 4 (nI (nbr tp s2))) := by
            refine ⟨b10.same S4 (by decide), RM, ?_, ?_, ?_, ?_⟩
            · show ∀ k, k < 16 → gm3.2.1 160 k = _
              rw [(b8 160 (by decide)).2.1]; exact M2.2.2.1
            · rw [sI_ne1 (by decide), f155 19 (by decide) (by decide)]; exact M2.2.2.2.1
            · rw [sI_ne1 (by decide), f155 20 (by decide) (by decide)]; exact M2.2.2.2.2.1
            · rw [sI_ne1 (by decide), b11, sI_nk1 (by decide), sI_ne1 (by decide)]; exact M2.2.2.2.2.2
          have O4 : SO tp (tkB tp 900 (tkX tp 900 s2)) (edS ρ (nbr tp s1) (nbr tp s2)) nS nK nm 1 0 := ⟨T, R.edict ⟨n1, n2⟩ ⟨n3, by omega⟩, (tkB_le tp 900 _).1, by omega, by omega⟩
          have U3 : unM gm2 (sI gm3 158 4 (nI (nbr tp s2))) := (unM.ofI158.tr ((unM.ofI155 (k := 17) (by decide)).tr ⟨b8.mono (fun a h1 => by simp only [List.mem_cons, List.not_mem_nil, or_false] at h1 ⊢; omega), fun j hj => b9.1 j (fun z => hj (by simp only [List.mem_cons, List.not_mem_nil, or_false] at z ⊢; omega)), b9.2, fun j _ => by rw [(b8 159 (by decide)).2.1]⟩)).tr unM.ofI158
          have U1 : unM gm1 gm2 := (unM.ofI155 (k := 17) (by decide)).tr b5
          have k18 : (sI gm3 158 4 (nI (nbr tp s2))).1 155 18 = gm.1 155 18 := by
            rw [sI_ne1 (by decide), f155 18 (by decide) (by decide), b6 18 (by decide), sI_nk1 (by decide), b3 18 (by decide), sI_nk1 (by decide)]
          rw [if_pos hf2, if_pos hf2, bndS, if_pos (show (0 : Int32) ≤ nI (nbr tp s2) from nI_le (a := 0) (by omega) (by omega)), C2.2.2.1, lt_s1, if_pos (show isO 8 142 = true by decide), b7, bnvS, bndS, if_neg (show ¬ (1 : Int32) = 0 by decide), show (4 : Int32).toNatClampNeg = 4 from lc (n := 4) (by decide), t17c, lt_s1]
          unfold f_X1_tell
          rw [lt_s1, lt_s1, bnvS, lt_s1]
          refine Or.inr ⟨_, _, nS, nK, nm, 1, 0, gc3, _, ?_, rfl, by omega, O4, C3, M4, k18, ((a2.tr a4).tr Sx).tr a6, ((U0.tr b2).tr U1).tr U3⟩
          show bnv (f_X9_advance (sI (sI (sI gc2 144 0 (nI (nbr tp s1))) 144 1 (nI (nbr tp s2))) 4 2 1)) _ = _
          rw [← hgx, a5, bnvS]
          rfl
        · have := nbF_le (tp := tp) 900 s2 1 (nbr tp s1 - 1)
          rw [if_neg hf2, if_neg hf2, bndS, bndS, if_neg (show ¬ (0 : Int32) ≤ -1 by decide), if_pos z0]
          exact Or.inl ((bad_here O2.s1000 (by omega)).tr (a2.tr a4) (((U0.tr b2).tr ((unM.ofI155 (k := 17) (by decide)).tr b5)).tr unM.ofI158))
      · have := nbF_le (tp := tp) 900 s1 2 5
        rw [if_neg hf, if_neg hf, bndS, bndS, if_neg (show ¬ (0 : Int32) ≤ -1 by decide), if_pos z0]
        exact Or.inl ((bad_here O1.s1000 (by omega)).tr a2 (U0.tr b2))
    · have nc : ¬ nI ck = 0 := fun z => hc ((nI_eq (b := 0) (by omega) (by omega)).mp z)
      rw [if_pos (show nI ed = 0 by rw [he]; rfl), if_pos (show nI ed = 0 by rw [he]; rfl), if_neg nc, if_neg nc]
      exact Or.inl (bad_here O0.s1000 (by omega))
  · have ne : ¬ nI ed = 0 := fun z => he ((nI_eq (b := 0) (by omega) (by omega)).mp z)
    rw [if_neg ne, if_neg ne]
    exact Or.inl (bad_here O0.s1000 (by omega))
end UNGF
