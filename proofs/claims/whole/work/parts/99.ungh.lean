section UNGH
variable {tp : List Nat} {ρ ρ' σ : Nat → Nat} {nS nK nm : Nat → List Nat} {h h' gc gm : Hp} {s ed ck : Nat}
/-- CLERK -/
theorem rd_clerk (hs : s ≤ 900) (O : SO tp s ρ nS nK nm ed ck) (C : SC tp s ρ nS nK nm ed ck gc) (M : SM tp s ρ nS nK nm ed ck gm) : bad2 gc gm (f_X6_readClerk gc) (f_X13_readClerk gm) ∨ good2 tp s gc gm (f_X6_readClerk gc) (f_X13_readClerk gm) := by
  have z0 : (0 : Int32) = 0 := rfl
  have T := O.1
  obtain ⟨-, -, h8, e3, e3', -, -⟩ := O.2.1.1.1
  have c64 := O.2.2.2.2
  obtain ⟨gc1, gm1, a1, b1, O1, C1, M1, a2, b2, b3⟩ := both_nx O C M
  have g1 := tkB_ge (tp := tp) (L := 900) (s := s) (by have := O.2.2.1; omega)
  obtain ⟨s1, hs1⟩ : ∃ s1, s1 = tkB tp 900 (tkX tp 900 s) := ⟨_, rfl⟩
  rw [← hs1] at C1 M1 O1 g1
  have s19 : s1 ≤ 900 := by rw [hs1]; exact (tkB_le tp 900 _).2
  have rl := tkR_lt (tp := tp) 900 s1
  unfold f_X6_readClerk f_X13_readClerk
  rw [a1, b1, bnvS, bnvS, C1.2.2.1, lt_s1, if_pos (show isO 8 142 = true by decide), C1.2.1.1.2.2.2.1, show f_X6_numberHere 1 (nI (ρ 3)) gc1 = _ from c_numberHere (a := 1) (b := ρ 3) C1.1 (by omega) (by omega), M1.1.2.1, show (3 : Int32).toNatClampNeg = 3 from lc (n := 3) (by decide), M1.2.1.1 3 (by omega)]
  by_cases h1 : tkQ tp 900 s1 = 2
  · have h2 : tkR tp 900 s1 = 2 := (tkQ_Rk (by decide) (by decide)).mp h1
    have n9 := nbr_lt (tkQ_K2 h1)
    have e5 : gm1.1 155 13 = nI (nbr tp s1) := M1.1.2.2.2.2.1 h2
    rw [if_pos (show nI (tkR tp 900 s1) = 2 by rw [h2]; rfl), e5]
    by_cases hin : 1 ≤ nbr tp s1 ∧ nbr tp s1 ≤ ρ 3
    · have hf : nbF tp 900 s1 1 (ρ 3) = 0 := by unfold nbF; rw [if_pos h1, if_pos hin]
      rw [if_pos hf, bndS, if_neg (show ¬ nI (nbr tp s1) < 0 from nI_nlt (b := 0) (by omega) (by omega)), m_isIn_t gm1 (lo := 1) (hi := nI (ρ 3)) (a := 1) (b := ρ 3) rfl rfl rfl hin.1 hin.2 (by omega), bndS, if_neg (show ¬ (1 : Int32) = 0 by decide), C1.2.2.2.2.1, M1.2.2.2.1, e5, m_has (by omega) (by omega), bndS]
      rw [show jshr (nI ck) (nI (nbr tp s1)) &&& 1 = nI (ck.testBit (nbr tp s1)).toNat from bitN (by omega) (by omega)]
      cases hb : ck.testBit (nbr tp s1)
      · rw [if_pos (show nI false.toNat = 0 from rfl), if_pos (show nI false.toNat = 0 from rfl), lt_s1]
        unfold B_X6_readClerk_48
        sorry
      · rw [if_neg (show ¬ nI true.toNat = 0 by decide), if_neg (show ¬ nI true.toNat = 0 by decide), show f_X6_refuse 3 gc1 = some (0, gfF gc1 3 s1) from c_refuse (k := 3) C1.1, show f_X13_bad 3 gm1 = some (0, mfF gm1 3 s1) from m_badT (k := 3) M1.1, bndS, bndS, if_pos z0, if_pos (show isZ 0 = true by decide)]
        exact Or.inl ((bad_here O1.s1000 (by omega)).tr a2 b2)
    · have hf : nbF tp 900 s1 1 (ρ 3) = 2 := by unfold nbF; rw [if_pos h1, if_neg hin]
      rw [hf, if_neg (show ¬ 2 = 0 by decide), bndS, if_pos (show (-1 : Int32) < 0 by decide)]
      rcases m_isIn (nI (nbr tp s1)) (lo := 1) (hi := nI (ρ 3)) (a := 1) (b := ρ 3) gm1 rfl rfl (by omega) (by omega) with ⟨e, q⟩ | ⟨j, q1, q2, q3, e⟩
      · rw [e, bndS, if_pos z0, show f_X13_bad 2 gm1 = some (0, mfF gm1 2 s1) from m_badT (k := 2) M1.1, bndS, if_pos (show isZ 0 = true by decide)]
        exact Or.inl ((bad_here O1.s1000 (by omega)).tr a2 b2)
      · have ej : nbr tp s1 = j := (nI_eq (by omega) (by omega)).mp q3
        exact absurd ⟨by omega, by omega⟩ hin
  · have h2 : ¬ tkR tp 900 s1 = 2 := fun z => h1 ((tkQ_Rk (by decide) (by decide)).mpr z)
    have hf : nbF tp 900 s1 1 (ρ 3) = 1 := by unfold nbF; rw [if_neg h1]
    rw [hf, if_neg (show ¬ 1 = 0 by decide), bndS, if_pos (show (-1 : Int32) < 0 by decide), if_neg (show ¬ nI (tkR tp 900 s1) = 2 from fun z => h2 ((nI_eq (b := 2) (by omega) (by omega)).mp z)), show f_X13_bad 1 gm1 = some (0, mfF gm1 1 s1) from m_badT (k := 1) M1.1, bndS, if_pos (show isZ 0 = true by decide)]
    exact Or.inl ((bad_here O1.s1000 (by omega)).tr a2 b2)
end UNGH
