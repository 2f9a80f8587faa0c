section UNGF
variable {tp : List Nat} {ρ ρ' σ : Nat → Nat} {nS nK nm : Nat → List Nat} {h h' gc gm : Hp} {s ed ck : Nat}
theorem nbF_le (L s a b : Nat) : nbF tp L s a b ≤ 2 := by
  unfold nbF
  by_cases h1 : tkQ tp L s = 2
  · rw [if_pos h1]
    by_cases h2 : a ≤ nbr tp s ∧ nbr tp s ≤ b
    · rw [if_pos h2]; omega
    · rw [if_neg h2]; omega
  · rw [if_neg h1]; omega
theorem nbF_0 {L a b : Nat} (h0 : nbF tp L s a b = 0) : a ≤ nbr tp s ∧ nbr tp s ≤ b := by
  unfold nbF at h0
  by_cases h1 : tkQ tp L s = 2
  · rw [if_pos h1] at h0
    by_cases h2 : a ≤ nbr tp s ∧ nbr tp s ≤ b
    · exact h2
    · rw [if_neg h2] at h0; omega
  · rw [if_neg h1] at h0; omega
theorem MT1.put {L k : Nat} {v : Int32} (B : MT1 tp L s h) (hk : k ∉ [3, 4, 5, 10, 11, 13]) : MT1 tp L s (sI h 155 k v) := by
  simp only [List.mem_cons, List.not_mem_nil, or_false, not_or] at hk
  obtain ⟨⟨q, q1, ⟨m1, m2, m3, m4⟩, q3⟩, b, c, d, e, g⟩ := B
  exact ⟨⟨q, q1, ⟨by rw [sI_nk1 (Ne.symm hk.1)]; exact m1, by rw [sI_nk1 (Ne.symm hk.2.1)]; exact m2, by rw [sI_nk1 (Ne.symm hk.2.2.1)]; exact m3, by rw [sI_ne1' (by decide)]; exact m4⟩, q3⟩, by rw [sI_nk1 (Ne.symm hk.2.2.2.1)]; exact b, by rw [sI_nk1 (Ne.symm hk.2.2.2.2.1)]; exact c, d, by rw [sI_nk1 (Ne.symm hk.2.2.2.2.2)]; exact e, by rw [sI_nk1 (Ne.symm hk.2.2.2.2.2)]; exact g⟩
theorem SM.put {k : Nat} {v : Int32} (M : SM tp s ρ nS nK nm ed ck gm) (hk : k ∉ [3, 4, 5, 10, 11, 13, 14, 19, 20]) : SM tp s ρ nS nK nm ed ck (sI gm 155 k v) := by
  have hk2 := hk
  simp only [List.mem_cons, List.not_mem_nil, or_false, not_or] at hk2
  obtain ⟨c1, c2, c3, c4, c5, c6⟩ := M
  refine ⟨c1.put (fun z => hk ?_), c2.same (Same.ofI (X := [155]) (by decide)) (by decide), c3, by rw [sI_nk1 (Ne.symm hk2.2.2.2.2.2.2.2.1)]; exact c4, by rw [sI_nk1 (Ne.symm hk2.2.2.2.2.2.2.2.2)]; exact c5, by rw [sI_nk1 (Ne.symm hk2.2.2.2.2.2.2.1)]; exact c6⟩
  simp only [List.mem_cons, List.not_mem_nil, or_false] at z ⊢
  omega
/-- EDICT -/
theorem rd_edict (hs : s ≤ 900) (O : SO tp s ρ nS nK nm ed ck) (C : SC tp s ρ nS nK nm ed ck gc) (M : SM tp s ρ nS nK nm ed ck gm) : bad2 gc gm (f_X6_readEdict gc) (f_X13_readEdict gm) ∨ good2 tp s gc gm (f_X6_readEdict gc) (f_X13_readEdict gm) := by
  have O0 := O
  obtain ⟨T, R, sl, e1, c64⟩ := O
  have z0 : (0 : Int32) = 0 := rfl
  unfold f_X6_readEdict f_X13_readEdict B_X6_readEdict_14 B_X13_readEdict_14
  rw [C.2.2.2.1, C.2.2.2.2.1, M.2.2.2.1, M.2.2.2.2.1, show f_X6_refuse 3 gc = some (0, gfF gc 3 s) from c_refuse (k := 3) C.1, show f_X13_bad 3 gm = some (0, mfF gm 3 s) from m_badT (k := 3) M.1, bndS, bndS, if_pos (show isZ 0 = true by decide), if_pos (show isZ 0 = true by decide)]
  by_cases he : ed = 0
  · by_cases hc : ck = 0
    · rw [if_pos (show nI ed = 0 by rw [he]; rfl), if_pos (show nI ed = 0 by rw [he]; rfl), if_pos (show nI ck = 0 by rw [hc]; rfl), if_pos (show nI ck = 0 by rw [hc]; rfl), lt_s1]
      subst he
      subst hc
      -- the reference has set its mark already
      have M0 : SM tp s ρ nS nK nm 1 0 (sI gm 155 20 1) := ⟨M.1.put (by decide), M.2.1.same (Same.ofI (X := [155]) (by decide)) (by decide), M.2.2.1, by rw [sI_nk1 (by decide)]; exact M.2.2.2.1, sI_s, by rw [sI_nk1 (by decide)]; exact M.2.2.2.2.2⟩
      have U0 : unM gm (sI gm 155 20 1) := unM.ofI155 (by decide)
      obtain ⟨gc1, a1, a2, C1⟩ := C.adv T sl
      obtain ⟨gm1, b1, b2, b3, M1⟩ := M0.nx T
      have O1 := tkB_ok T O0
      have g1 := tkB_ge (tp := tp) (L := 900) (s := s) (by omega)
      obtain ⟨s1, hs1⟩ : ∃ s1, s1 = tkB tp 900 (tkX tp 900 s) := ⟨_, rfl⟩
      rw [← hs1] at C1 M1 O1 g1
      have s19 : s1 ≤ 900 := by rw [hs1]; exact (tkB_le tp 900 _).2
      rw [a1, b1, bnvS, bnvS, show f_X6_numberHere 2 5 gc1 = _ from c_numberHere (a := 2) (b := 5) C1.1 (by omega) (by omega), show f_X13_takes 2 5 gm1 = _ from m_takesT (a := 2) (b := 5) M1.1 (by omega) (by omega)]
      by_cases hf : nbF tp 900 s1 2 5 = 0
      · obtain ⟨n1, n2⟩ := nbF_0 hf
        rw [if_pos hf, if_pos hf, bndS, if_pos (show (0 : Int32) ≤ nI (nbr tp s1) from nI_le (a := 0) (by omega) (by omega))]
        obtain ⟨gc2, a3, a4, C2⟩ := C1.adv T O1.2.2.1
        obtain ⟨gm2, b4, b5, b6, M2⟩ := (M1.put (k := 17) (v := nI (nbr tp s1)) (by decide)).nx T
        have O2 := tkB_ok T O1
        have g2 := tkB_ge (tp := tp) (L := 900) (s := s1) (by have := O1.2.2.1; omega)
        obtain ⟨s2, hs2⟩ : ∃ s2, s2 = tkB tp 900 (tkX tp 900 s1) := ⟨_, rfl⟩
        rw [← hs2] at C2 M2 O2 g2
        have s29 : s2 ≤ 900 := by rw [hs2]; exact (tkB_le tp 900 _).2
        have t17 : gm2.1 155 17 = nI (nbr tp s1) := by rw [b6 17 (by decide)]; exact sI_s
        rw [a3, b4, bnvS, bnvS, bndS, if_neg (show ¬ (1 : Int32) = 0 by decide), show (3 : Int32).toNatClampNeg = 3 from lc (n := 3) (by decide), t17, lt_s1]
        have t17b : (sI gm2 158 3 (nI (nbr tp s1))).1 155 17 = nI (nbr tp s1) := by rw [sI_ne1 (by decide)]; exact t17
        have B3 : MT1 tp 900 s2 (sI gm2 158 3 (nI (nbr tp s1))) := M2.1.same (Same.ofI (X := [158]) (by decide)) (by decide)
        rw [t17b, li_1, subN (by omega), c_numberHere (a := 1) (b := nbr tp s1 - 1) C2.1 (by omega) (by omega), m_takesT (a := 1) (b := nbr tp s1 - 1) B3 (by omega) (by omega)]
        sorry
      · have := nbF_le (tp := tp) 900 s1 2 5
        rw [if_neg hf, if_neg hf, bndS, bndS, if_neg (show ¬ (0 : Int32) ≤ -1 by decide), if_pos z0]
        exact Or.inl ((bad_here O1.s1000 (by omega)).tr a2 (U0.tr b2))
    · have nc : ¬ nI ck = 0 := fun z => hc ((nI_eq (b := 0) (by omega) (by omega)).mp z)
      rw [if_pos (show nI ed = 0 by rw [he]; rfl), if_pos (show nI ed = 0 by rw [he]; rfl), if_neg nc, if_neg nc]
      exact Or.inl (bad_here O0.s1000 (by omega))
  · have ne : ¬ nI ed = 0 := fun z => he ((nI_eq (b := 0) (by omega) (by omega)).mp z)
    rw [if_neg ne, if_neg ne]
    exact Or.inl (bad_here O0.s1000 (by omega))
end UNGF
