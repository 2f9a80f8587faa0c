section UNGN
variable {tp : List Nat} {ρ ρ' σ : Nat → Nat} {nS nK nm nS' nK' nm' : Nat → List Nat} {h h' gc gc1 gm : Hp} {s ed ck : Nat} {rc rm : Option (Int32 × Hp)}
theorem cR_mayFollow {t o k : Nat} (T : ∀ k, k < 5 → h.2.1 (t + 4) k = lN (ahd ρ k)) (H : TgOk ρ nm) (ho : o < 6) (hk : k < 5) : f_X10_mayFollow t (nI o) (nI k) h = some (nI (decide (fol ρ o k = 1)).toNat, h) := by
  have al := ahd_lt H hk
  have fl := H.fl ho hk
  have e : lN (ahd ρ k / 2 ^ (8 * o)) &&& 1 = lN (decide (fol ρ o k = 1)).toNat := by
    rw [wb_a1 (Nat.lt_of_le_of_lt (Nat.div_le_self _ _) (by omega)), byo_par, ahd_pk, pk8_byte 6 o (fun i hi => by
      have := H.fl (o := i) hi hk
      show 255 * fol ρ i k < 256
      omega) ho]
    congr 1
    rcases (show fol ρ o k = 0 ∨ fol ρ o k = 1 by omega) with z | z
    · rw [z]; rfl
    · rw [z]; rfl
  unfold f_X10_mayFollow
  rw [if_pos (inb_nI hk (by decide)), nI_clamp (by omega), T k hk, li_8, pk_mul, Lushr (by omega) (by omega), e]
  simp only [lgc0]
  cases hb : decide (fol ρ o k = 1)
  · rfl
  · rfl
theorem RgC.fw {a b : Nat} (H : TgOk ρ nm) (ha : a < ρ 0) (hb : b < ρ 0) (h0 : ρ (15 + 5 * a + b) = 0) (R : RgC h 142 ρ nS nK nm) : RgC (sL h 146 b (lN (ahd (fwS ρ a b) b))) 142 (fwS ρ a b) nS nK nm := by
  have s5 := H.1.1
  have h8 := H.1.2.2.1
  obtain ⟨⟨a1, a2, a3, a4, a5⟩, ⟨b1, b2, b3⟩, c, ⟨d1, d2⟩, e, ⟨f1, f2⟩, g⟩ := R
  have o : ∀ k, (k < 15 ∨ 40 ≤ k) → fwS ρ a b k = ρ k := fun k hk => fwS_n (by omega)
  unfold RgC
  rw [o 0 (by omega), o 1 (by omega), o 2 (by omega), o 3 (by omega), o 4 (by omega), ens_u (fun j _ _ => o j (by omega)), idl_u (fun j _ _ => o j (by omega))]
  refine ⟨⟨a1, a2, a3, a4, a5⟩, ⟨b1, b2, b3⟩, fun k k1 k2 => ?_, ⟨fun k hk => ?_, ?_⟩, fun w hw => ?_, ⟨fun w hw => ?_, f2⟩, fun i hi => ?_⟩
  · rw [o _ (by omega)]; exact c k k1 k2
  · show (sL h 146 b (lN (ahd (fwS ρ a b) b))).2.1 146 k = _
    by_cases z : k = b
    · rw [z, sL_s]
    · rw [sL_nk1 z, (ahd_fw H ha hb h0).2 k hk z]; exact d1 k hk
  · rw [sL_ne1 (by decide)]; exact d2
  · rw [o _ (by omega), o _ (by omega), o _ (by omega)]; exact e w hw
  · rw [rds_u (fun j _ _ => o j (by omega)) hw]; exact f1 w hw
  · rw [mk_u (fun j _ _ => o j (by omega)) hi]; exact g i hi
theorem RgM.fw {a b : Nat} (ha : a < 5) (hb : b < 5) (R : RgM h ρ nS nK nm) : RgM (sI h 158 (15 + 5 * a + b) 1) (fwS ρ a b) nS nK nm := by
  obtain ⟨a1, a2, a3, a4⟩ := R
  have o : ∀ k, k < 15 → fwS ρ a b k = ρ k := fun k hk => fwS_n (by omega)
  unfold RgM
  rw [o 0 (by omega), o 1 (by omega), o 2 (by omega)]
  refine ⟨fun k hk => ?_, a2, a3, a4⟩
  by_cases z : k = 15 + 5 * a + b
  · rw [z, sI_s, fwS_y]; rfl
  · rw [sI_nk1 z, fwS_n z]; exact a1 k hk
theorem RgOk.fw {a b : Nat} (R : RgOk ρ nS nK nm) (ha : a < ρ 0) (hb : b < ρ 0) : RgOk (fwS ρ a b) nS nK nm := by
  refine ⟨R.1.fw ha hb, ?_, ?_⟩
  · rw [fwS_n (by omega)]; exact R.2.1
  · rw [fwS_n (by omega)]; exact R.2.2
/-- FOLLOW -/
theorem rd_follow (hs : s ≤ 900) (O : SO tp s ρ nS nK nm ed ck) (C : SC tp s ρ nS nK nm ed ck gc) (M : SM tp s ρ nS nK nm ed ck gm) : bad2 gc gm (f_X6_readFollow gc) (f_X13_readFollow gm) ∨ good2 tp s gc gm (f_X6_readFollow gc) (f_X13_readFollow gm) := by
  have T := O.1
  have H := O.2.1.1
  have okS := O.2.1.2.1
  obtain ⟨h5, h3, h8, -⟩ := H.1
  have i8 : isO 8 142 = true := by decide
  have c0 : (0 : Int32).toNatClampNeg = 0 := rfl
  have n10 : ¬ (1 : Int32) = 0 := by decide
  have z0 : (0 : Int32) = 0 := rfl
  obtain ⟨gc1, gm1, a1, b1, O1, C1, M1, a2, b2, b3⟩ := both_nx O C M
  have g1 := tkB_ge (tp := tp) (L := 900) (s := s) (by have := O.2.2.1; omega)
  obtain ⟨s1, hs1⟩ : ∃ s1, s1 = tkB tp 900 (tkX tp 900 s) := ⟨_, rfl⟩
  rw [← hs1] at C1 M1 O1 g1
  have s19 : s1 ≤ 900 := by rw [hs1]; exact (tkB_le tp 900 _).2
  unfold f_X6_readFollow f_X13_readFollow
  rw [a1, b1, bnvS, bnvS, C1.2.2.1, lt_s1, if_pos i8, C1.2.1.1.1, show f_X6_toldHere 0 (nI (ρ 0)) gc1 = _ from c_told (base := 0) (n := ρ 0) (f := nS) (t := 142) i8 (fun w hw => by rw [Nat.zero_add]; exact C1.2.1.2.1.1 w hw) okS (by omega) C1.2.2.1 C1.1, c0, M1.2.1.1 0 (by omega), show f_X13_takesName 16 (nI (ρ 0)) gm1 = _ from m_takesName (base := 16) M1.2.1.2.1 okS (by omega) M1.2.2.1 M1.1]
  cases hn : isNm tp 900 s1
  · rw [if_pos rfl, if_pos rfl, bndS, bndS, if_neg (show ¬ (0 : Int32) ≤ -1 by decide), if_pos z0]
    exact Or.inl ((bad_here O1.s1000 (by omega)).tr a2 b2)
  · rw [if_neg (show ¬ true = false by decide), if_neg (show ¬ true = false by decide)]
    by_cases hi : ixN nS (ρ 0) (nmT tp s1) < ρ 0
    · rw [if_pos hi, if_pos hi]
      obtain ⟨a, ha⟩ : ∃ a, a = ixN nS (ρ 0) (nmT tp s1) := ⟨_, rfl⟩
      rw [← ha] at hi ⊢
      obtain ⟨gc2, a3, a4, C2⟩ := C1.adv5 T O1.2.2.1
      obtain ⟨gm2, b4, b5, b6, M2⟩ := (M1.put (k := 17) (v := nI a) (by decide)).nx5 T
      have O2 := tkB_ok T O1
      have g2 := tkB_ge (tp := tp) (L := 900) (s := s1) (by have := O1.2.2.1; omega)
      obtain ⟨s2, hs2⟩ : ∃ s2, s2 = tkB tp 900 (tkX tp 900 s1) := ⟨_, rfl⟩
      rw [← hs2] at C2 M2 O2 g2
      have s29 : s2 ≤ 900 := by rw [hs2]; exact (tkB_le tp 900 _).2
      have t17 : gm2.1 155 17 = nI a := by rw [b6.1 17 (by decide)]; exact sI_s
      have U2 : unM gm gm2 := b2.tr ((unM.ofI155 (k := 17) (by decide)).tr (unM.ofF b5 b6))
      have k18 : gm2.1 155 18 = gm.1 155 18 := by rw [b6.1 18 (by decide), sI_nk1 (by decide)]; exact b3 18 (by decide)
      have V2 : Same unC gc gc2 := a2.tr (unC5 a4)
      have bc3 : f_X6_refuse 3 gc2 = some (0, gfF gc2 3 s2) := c_refuse (k := 3) C2.1
      have bm3 : B_X13_readFollow_73 gm2 = some (0, mfF gm2 3 s2) := by
        unfold B_X13_readFollow_73
        rw [show f_X13_bad 3 gm2 = some (0, mfF gm2 3 s2) from m_badT (k := 3) M2.1, bndS, if_pos (show isZ 0 = true by decide)]
      rw [bndS, if_pos (ix_ge hi (by omega)), a3, b4, bnvS, bnvS, bndS, if_neg n10, t17, lt_s1, lt_s1, C2.2.2.1, if_pos i8, C2.2.1.1.1, show f_X6_toldHere 0 (nI (ρ 0)) gc2 = _ from c_told (base := 0) (n := ρ 0) (f := nS) (t := 142) i8 (fun w hw => by rw [Nat.zero_add]; exact C2.2.1.2.1.1 w hw) okS (by omega) C2.2.2.1 C2.1, m_isNameT M2.1 M2.2.2.1, bndS]
      cases hn2 : isNm tp 900 s2
      · rw [if_pos rfl, if_pos (show nI false.toNat = 0 from rfl), bndS, if_pos (show (-1 : Int32) < 0 by decide), show f_X13_bad 1 gm2 = some (0, mfF gm2 1 s2) from m_badT (k := 1) M2.1, bndS, if_pos (show isZ 0 = true by decide)]
        exact Or.inl ((bad_here O2.s1000 (by omega)).tr V2 U2)
      · rw [if_neg (show ¬ true = false by decide), if_neg (show ¬ nI true.toNat = 0 by decide), M2.2.1.1 0 (by omega), show f_X13_find 16 (nI (ρ 0)) gm2 = _ from m_ixName (base := 16) M2.2.1.2.1 okS (by omega) M2.1 (isNm_1 hn2)]
        by_cases hj : ixN nS (ρ 0) (nmT tp s2) < ρ 0
        · rw [if_pos hj, if_pos hj]
          obtain ⟨b, hb⟩ : ∃ b, b = ixN nS (ρ 0) (nmT tp s2) := ⟨_, rfl⟩
          rw [← hb] at hj ⊢
          have fe : fol ρ a b = ρ (15 + 5 * a + b) := by unfold fol; rw [if_neg (by omega)]
          have f1 : ρ (15 + 5 * a + b) ≤ 1 := H.2.1 _ (by omega) (by omega)
          rw [bndS, bndS, if_neg (show ¬ nI b < 0 from nI_nlt (b := 0) (by omega) (by omega)), if_neg (show ¬ nI b < 0 from nI_nlt (b := 0) (by omega) (by omega)), C2.2.2.1, lt_s1, if_pos i8, cR_mayFollow (t := 142) C2.2.1.2.2.2.1.1 H (by omega) (by omega), bndS, fe, show (15 + 5 * nI a + nI b : Int32) = nI (15 + 5 * a + b) by rw [li_15, li_5, pk_mul, nI_add, nI_add], if_pos (inb_nI (by omega) (by decide)), clp (by omega), M2.2.1.1 _ (by omega)]
          by_cases hf : ρ (15 + 5 * a + b) = 1
          · rw [decide_eq_true hf, if_neg (show ¬ nI true.toNat = 0 by decide), if_pos (show nI (ρ (15 + 5 * a + b)) = 1 by rw [hf]; rfl), bc3, bm3, bndS, if_pos z0]
            exact Or.inl ((bad_here O2.s1000 (by omega)).tr V2 U2)
          · have f0 : ρ (15 + 5 * a + b) = 0 := by omega
            have al := ahd_lt H (k := b) (by omega)
            have Cx : SC tp s2 (fwS ρ a b) nS nK nm ed ck (sL gc2 146 b (lN (ahd (fwS ρ a b) b))) := C2.of (Same.ofL (X := [146]) (by decide)) (by decide) (C2.2.1.fw H hi hj f0)
            have Mx : SM tp s2 (fwS ρ a b) nS nK nm ed ck (sI gm2 158 (15 + 5 * a + b) 1) := M2.of (Same.ofI (X := [158]) (by decide)) (by decide) (M2.2.1.fw (by omega) (by omega))
            obtain ⟨gc3, a5, a6, C3⟩ := Cx.adv5 T O2.2.2.1
            obtain ⟨gm3, b7, b8, b9, M3⟩ := Mx.nx5 T
            have O3 : SO tp s2 (fwS ρ a b) nS nK nm ed ck := ⟨T, O.2.1.fw hi hj, O2.2.2⟩
            have g3 := tkB_ge (tp := tp) (L := 900) (s := s2) (by have := O2.2.2.1; omega)
            rw [decide_eq_false hf, if_pos (show nI false.toNat = 0 from rfl), if_neg (show ¬ nI (ρ (15 + 5 * a + b)) = 1 by rw [f0]; decide), if_pos (inb_nI (by omega) (by decide)), lt_s1, b7, bnvS]
            unfold B_X6_readFollow_72
            rw [C2.2.2.1, lt_s1, if_pos i8, c_turnF (t := 142) (by omega) (by omega) al (C2.2.1.2.2.2.1.1 b (by omega)), (ahd_fw H hi hj f0).1, bnvS]
            refine Or.inr ⟨_, _, nS, nK, nm, ed, ck, gc3, gm3, ?_, rfl, by omega, tkB_ok T O3, C3, M3, ?_, V2.tr ((Same.ofL (by decide)).tr (unC5 a6)), U2.tr (unM.ofI158.tr (unM.ofF b8 b9))⟩
            · show bnv (f_X9_advance (sL gc2 146 b (lN (ahd (fwS ρ a b) b)))) _ = _
              rw [a5, bnvS]
            · rw [b9.1 18 (by decide), sI_ne1 (by decide)]; exact k18
        · rw [if_neg hj, if_neg hj, bndS, bndS, if_pos (show (-1 : Int32) < 0 by decide), if_pos (show (-1 : Int32) < 0 by decide), bm3]
          exact Or.inl ((bad_here O2.s1000 (by omega)).tr V2 U2)
    · rw [if_neg hi, if_neg hi, bndS, bndS, if_neg (show ¬ (0 : Int32) ≤ -1 by decide), if_pos z0]
      exact Or.inl (((bad_here O1.s1000 (by omega)).tr Same.rf (unM.ofI155 (k := 17) (by decide))).tr a2 b2)
end UNGN
