section UNGH
variable {tp : List Nat} {ρ ρ' σ : Nat → Nat} {nS nK nm : Nat → List Nat} {h h' gc gm : Hp} {s ed ck : Nat}
/-- CLERK -/
theorem rd_clerk (hs : s ≤ 900) (O : SO tp s ρ nS nK nm ed ck) (C : SC tp s ρ nS nK nm ed ck gc) (M : SM tp s ρ nS nK nm ed ck gm) : bad2 gc gm (f_X6_readClerk gc) (f_X13_readClerk gm) ∨ good2 tp s gc gm (f_X6_readClerk gc) (f_X13_readClerk gm) := by
  have z0 : (0 : Int32) = 0 := rfl
  have T := O.1
  obtain ⟨-, -, h8, e3, e3', -, -⟩ := O.2.1.1.1
  have c64 := O.2.2.2.2
  obtain ⟨gc1, gm1, a1, b1, O1, C1, M1, a2, b2, b3⟩ := both_nx O C M
  have g1 := tkB_ge (tp := tp) (L := 900) (s := s) (by have := O.2.2.1; omega)
  obtain ⟨s1, hs1⟩ : ∃ s1, s1 = tkB tp 900 (tkX tp 900 s) := ⟨_, rfl⟩
  rw [← hs1] at C1 M1 O1 g1
  have s19 : s1 ≤ 900 := by rw [hs1]; exact (tkB_le tp 900 _).2
  have rl := tkR_lt (tp := tp) 900 s1
  unfold f_X6_readClerk f_X13_readClerk
  rw [a1, b1, bnvS, bnvS, C1.2.2.1, lt_s1, if_pos (show isO 8 142 = true by decide), C1.2.1.1.2.2.2.1, show f_X6_numberHere 1 (nI (ρ 3)) gc1 = _ from c_numberHere (a := 1) (b := ρ 3) C1.1 (by omega) (by omega), M1.1.2.1, show (3 : Int32).toNatClampNeg = 3 from lc (n := 3) (by decide), M1.2.1.1 3 (by omega)]
  by_cases h1 : tkQ tp 900 s1 = 2
  · have h2 : tkR tp 900 s1 = 2 := (tkQ_Rk (by decide) (by decide)).mp h1
    have n9 := nbr_lt (tkQ_K2 h1)
    have e5 : gm1.1 155 13 = nI (nbr tp s1) := M1.1.2.2.2.2.1 h2
    rw [if_pos (show nI (tkR tp 900 s1) = 2 by rw [h2]; rfl), e5]
    by_cases hin : 1 ≤ nbr tp s1 ∧ nbr tp s1 ≤ ρ 3
    · have hf : nbF tp 900 s1 1 (ρ 3) = 0 := by unfold nbF; rw [if_pos h1, if_pos hin]
      rw [if_pos hf, bndS, if_neg (show ¬ nI (nbr tp s1) < 0 from nI_nlt (b := 0) (by omega) (by omega)), m_isIn_t gm1 (lo := 1) (hi := nI (ρ 3)) (a := 1) (b := ρ 3) rfl rfl rfl hin.1 hin.2 (by omega), bndS, if_neg (show ¬ (1 : Int32) = 0 by decide), C1.2.2.2.2.1, M1.2.2.2.1, e5, m_has (by omega) (by omega), bndS]
      rw [show jshr (nI ck) (nI (nbr tp s1)) &&& 1 = nI (ck.testBit (nbr tp s1)).toNat from bitN (by omega) (by omega)]
      cases hb : ck.testBit (nbr tp s1)
      · rw [if_pos (show nI false.toNat = 0 from rfl), if_pos (show nI false.toNat = 0 from rfl), lt_s1]
        unfold B_X6_readClerk_48
        obtain ⟨v, hv⟩ : ∃ v, v = nbr tp s1 := ⟨_, rfl⟩
        rw [← hv] at hin hb n9 ⊢
        have p6 : 2 ^ v < 2 ^ 6 := Nat.pow_lt_pow_right (by decide) (by omega)
        have ck6 : ck ||| 2 ^ v < 2 ^ 6 := Nat.or_lt_two_pow (show ck < 2 ^ 6 from c64) p6
        have ev : nI ck ||| jshl 1 (nI v) = nI (ck ||| 2 ^ v) := by rw [li_1, shl1 (by omega), fa_or]
        have M1' : SM tp s1 ρ nS nK nm ed (ck ||| 2 ^ v) (sI gm1 155 19 (nI (ck ||| 2 ^ v))) := ⟨M1.1.put (by decide), M1.2.1.same (Same.ofI (X := [155]) (by decide)) (by decide), M1.2.2.1, sI_s, by rw [sI_nk1 (by decide)]; exact M1.2.2.2.2.1, by rw [sI_nk1 (by decide)]; exact M1.2.2.2.2.2⟩
        have U1 : unM gm1 (sI gm1 155 19 (nI (ck ||| 2 ^ v))) := unM.ofI155 (by decide)
        obtain ⟨gc2, a3, a4, C2⟩ := C1.adv T O1.2.2.1
        obtain ⟨gm2, b4, b5, b6, M2⟩ := M1'.nx T
        have O2 := tkB_ok T O1
        have g2 := tkB_ge (tp := tp) (L := 900) (s := s1) (by have := O1.2.2.1; omega)
        obtain ⟨s2, hs2⟩ : ∃ s2, s2 = tkB tp 900 (tkX tp 900 s1) := ⟨_, rfl⟩
        rw [← hs2] at C2 M2 O2 g2
        have s29 : s2 ≤ 900 := by rw [hs2]; exact (tkB_le tp 900 _).2
        have e5v : gm1.1 155 13 = nI v := by rw [hv]; exact e5
        rw [a3, bnvS, M1.2.2.2.1, e5v, ev, show (sI gm1 155 19 (nI (ck ||| 2 ^ v))).1 155 13 = nI v by rw [sI_nk1 (by decide), hv]; exact e5, show (432 + nI v - 1 : Int32) = nI (431 + v) by rw [li_432, nI_add, li_1, subN (by omega), show 432 + v - 1 = 431 + v by omega], lt_s1, b4, bnvS, show f_X6_numberHere 0 9 gc2 = _ from c_numberHere (a := 0) (b := 9) C2.1 (by omega) (by omega), show f_X13_takes 0 9 gm2 = _ from m_takesT (a := 0) (b := 9) M2.1 (by omega) (by omega)]
        by_cases hf2 : nbF tp 900 s2 0 9 = 0
        · obtain ⟨n3, n4⟩ := nbF_0 hf2
          obtain ⟨gx, hgx⟩ : ∃ gx, gx = sI (sI gc2 4 3 (nI (ck ||| 2 ^ v))) 145 v (nI (nbr tp s2)) := ⟨_, rfl⟩
          have Sx1 : Same [4] gc2 (sI gc2 4 3 (nI (ck ||| 2 ^ v))) := Same.ofI (by decide)
          have Sx2 : Same [145] (sI gc2 4 3 (nI (ck ||| 2 ^ v))) gx := by rw [hgx]; exact Same.ofI (by decide)
          have Sx : Same unC gc2 gx := (Sx1.mono (fun a h1 => by simp only [List.mem_cons, List.not_mem_nil, or_false] at h1; subst h1; decide)).tr (Sx2.mono (fun a h1 => by simp only [List.mem_cons, List.not_mem_nil, or_false] at h1; subst h1; decide))
          have Rx : RgC gx 142 (ckS ρ v (nbr tp s2)) nS nK nm := (C2.2.1.same Sx1 (fun a h1 h2 => by simp only [List.mem_cons, List.not_mem_nil, or_false]; omega)).clerk hin.1 h8 Sx2 (by rw [hgx]; exact sI_s) (fun j hj => by rw [hgx, sI_nk1 hj])
          have Cx : SC tp s2 (ckS ρ v (nbr tp s2)) nS nK nm ed (ck ||| 2 ^ v) gx := by
            refine ⟨(C2.1.same Sx1 (by decide)).same Sx2 (by decide), Rx, ?_, ?_, ?_, ?_⟩
            · rw [hgx]; exact C2.2.2.1
            · rw [hgx, sI_ne1 (by decide), sI_nk1 (by decide)]; exact C2.2.2.2.1
            · rw [hgx, sI_ne1 (by decide)]; exact sI_s
            · rw [hgx, sI_ne1 (by decide), sI_nk1 (by decide)]; exact C2.2.2.2.2.2
          obtain ⟨gc3, a5, a6, C3⟩ := Cx.adv T O2.2.2.1
          obtain ⟨gm3, b7, b8, b9, M3⟩ := (M2.put (k := 17) (v := nI (nbr tp s2)) (by decide)).nx T
          have g3 := tkB_ge (tp := tp) (L := 900) (s := s2) (by have := O2.2.2.1; omega)
          have t17 : gm3.1 155 17 = nI (nbr tp s2) := by rw [b9 17 (by decide)]; exact sI_s
          have S4 : Same [158] gm3 (sI gm3 158 (431 + v) (nI (nbr tp s2))) := Same.ofI (by decide)
          have M4 : SM tp (tkB tp 900 (tkX tp 900 s2)) (ckS ρ v (nbr tp s2)) nS nK nm ed (ck ||| 2 ^ v) (sI gm3 158 (431 + v) (nI (nbr tp s2))) := ⟨M3.1.same S4 (by decide), M3.2.1.clerk hin.1 (fun k hk => sI_nk1 hk) rfl sI_s, M3.2.2.1, by rw [sI_ne1 (by decide)]; exact M3.2.2.2.1, by rw [sI_ne1 (by decide)]; exact M3.2.2.2.2.1, by rw [sI_ne1 (by decide)]; exact M3.2.2.2.2.2⟩
          have O4 : SO tp (tkB tp 900 (tkX tp 900 s2)) (ckS ρ v (nbr tp s2)) nS nK nm ed (ck ||| 2 ^ v) := ⟨T, O.2.1.clerk hin.1 n4, (tkB_le tp 900 _).1, O.2.2.2.1, ck6⟩
          have k18 : (sI gm3 158 (431 + v) (nI (nbr tp s2))).1 155 18 = gm.1 155 18 := by
            rw [sI_ne1 (by decide), b9 18 (by decide), sI_nk1 (by decide), b6 18 (by decide), sI_nk1 (by decide), b3 18 (by decide)]
          rw [if_pos hf2, if_pos hf2, bndS, if_pos (show (0 : Int32) ≤ nI (nbr tp s2) from nI_le (a := 0) (by omega) (by omega)), C2.2.2.2.2.1, ev, lt_s1, show (sI gc2 4 3 (nI (ck ||| 2 ^ v))).2.2 4 1 = 142 from C2.2.2.1, lt_s1, if_pos (show isO 8 142 = true by decide), if_pos (inb_nI (by omega) (by decide)), clp (by omega), lt_s1, b7, bnvS, bndS, if_neg (show ¬ (1 : Int32) = 0 by decide), if_pos (inb_nI (by omega) (by decide)), clp (by omega), t17, lt_s1]
          refine Or.inr ⟨_, _, nS, nK, nm, ed, _, gc3, _, ?_, rfl, by omega, O4, C3, M4, k18, ((a2.tr a4).tr Sx).tr a6, (((b2.tr U1).tr b5).tr ((unM.ofI155 (k := 17) (by decide)).tr b8)).tr unM.ofI158⟩
          show bnv (f_X9_advance (sI (sI gc2 4 3 (nI (ck ||| 2 ^ v))) 145 v (nI (nbr tp s2)))) _ = _
          rw [← hgx, a5, bnvS]
        · have := nbF_le (tp := tp) 900 s2 0 9
          rw [if_neg hf2, if_neg hf2, bndS, bndS, if_neg (show ¬ (0 : Int32) ≤ -1 by decide), if_pos z0]
          exact Or.inl ((bad_here O2.s1000 (by omega)).tr (a2.tr a4) ((b2.tr U1).tr b5))
      · rw [if_neg (show ¬ nI true.toNat = 0 by decide), if_neg (show ¬ nI true.toNat = 0 by decide), show f_X6_refuse 3 gc1 = some (0, gfF gc1 3 s1) from c_refuse (k := 3) C1.1, show f_X13_bad 3 gm1 = some (0, mfF gm1 3 s1) from m_badT (k := 3) M1.1, bndS, bndS, if_pos z0, if_pos (show isZ 0 = true by decide)]
        exact Or.inl ((bad_here O1.s1000 (by omega)).tr a2 b2)
    · have hf : nbF tp 900 s1 1 (ρ 3) = 2 := by unfold nbF; rw [if_pos h1, if_neg hin]
      rw [hf, if_neg (show ¬ 2 = 0 by decide), bndS, if_pos (show (-1 : Int32) < 0 by decide)]
      rcases m_isIn (nI (nbr tp s1)) (lo := 1) (hi := nI (ρ 3)) (a := 1) (b := ρ 3) gm1 rfl rfl (by omega) (by omega) with ⟨e, q⟩ | ⟨j, q1, q2, q3, e⟩
      · rw [e, bndS, if_pos z0, show f_X13_bad 2 gm1 = some (0, mfF gm1 2 s1) from m_badT (k := 2) M1.1, bndS, if_pos (show isZ 0 = true by decide)]
        exact Or.inl ((bad_here O1.s1000 (by omega)).tr a2 b2)
      · have ej : nbr tp s1 = j := (nI_eq (by omega) (by omega)).mp q3
        exact absurd ⟨by omega, by omega⟩ hin
  · have h2 : ¬ tkR tp 900 s1 = 2 := fun z => h1 ((tkQ_Rk (by decide) (by decide)).mpr z)
    have hf : nbF tp 900 s1 1 (ρ 3) = 1 := by unfold nbF; rw [if_neg h1]
    rw [hf, if_neg (show ¬ 1 = 0 by decide), bndS, if_pos (show (-1 : Int32) < 0 by decide), if_neg (show ¬ nI (tkR tp 900 s1) = 2 from fun z => h2 ((nI_eq (b := 2) (by omega) (by omega)).mp z)), show f_X13_bad 1 gm1 = some (0, mfF gm1 1 s1) from m_badT (k := 1) M1.1, bndS, if_pos (show isZ 0 = true by decide)]
    exact Or.inl ((bad_here O1.s1000 (by omega)).tr a2 b2)
end UNGH
