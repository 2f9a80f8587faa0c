section UNGR
variable {tp : List Nat} {ρ ρ' σ : Nat → Nat} {nS nK nm N nS' nK' nm' : Nat → List Nat} {h h' gc gc1 gm : Hp} {s ed ck : Nat} {rc rm : Option (Int32 × Hp)}
theorem c117_0 (x : Int32) (h : Hp) : B_X6_readWord_117 x 0 h = some (0, h) := by
  unfold B_X6_readWord_117
  rw [if_pos (show (0 : Int32) = 0 from rfl), if_pos (show isZ 0 = true by decide)]
/-- SAYING -/
theorem rd_word (hs : s ≤ 900) (O : SO tp s ρ nS nK nm ed ck) (C : SC tp s ρ nS nK nm ed ck gc) (M : SM tp s ρ nS nK nm ed ck gm) : bad2 gc gm (f_X6_readWord gc) (f_X13_readWord gm) ∨ good2 tp s gc gm (f_X6_readWord gc) (f_X13_readWord gm) := by
  have T := O.1
  have H := O.2.1.1
  obtain ⟨h5, h3, h8, -⟩ := H.1
  have i8 : isO 8 142 = true := by decide
  have n10 : ¬ (1 : Int32) = 0 := by decide
  have z0 : (0 : Int32) = 0 := rfl
  rw [wBrw]
  unfold f_X6_readWord
  rw [C.2.2.1, lt_s1, if_pos i8, C.2.1.1.2.2.1, show (2 : Int32).toNatClampNeg = 2 from rfl, M.2.1.1 2 (by omega), lt_s1, if_pos i8, C.2.1.1.2.2.1, lt_s1, lt_s1]
  by_cases hk : ρ 2 < 8
  · obtain ⟨gm1, e1, e2, r⟩ := new2 (x := 8 + ρ 2) (by omega) hs (fun i hi => by omega) (fun i hi => by omega) (fun w hw => by omega) O C M
    rw [if_pos (show nI (ρ 2) < 8 from nI_lt (b := 8) hk (by omega)), if_neg (show ¬ nI (ρ 2) = 8 from fun z => by have := (nI_eq (b := 8) (by omega) (by omega)).mp z; omega), e1, bnvS, li_8, nI_add, show (24 : Int32) + nI (ρ 2) = nI (16 + (8 + ρ 2)) by rw [li_24, nI_add, show 24 + ρ 2 = 16 + (8 + ρ 2) by omega]]
    rcases r with r | ⟨s2, l, gc2, gm2, a1, a2, a3, a4, a5, O2, C2, M2, n1, n2, k18, u1, u2⟩
    · exact Or.inl (r.bnd (fun _ => if_pos rfl) (fun _ => if_pos rfl))
    · have sl2 := O2.2.2.1
      -- the class counts it, the reference makes it plain
      obtain ⟨g0, hg0⟩ : ∃ g0, g0 = sI gc2 142 2 (nI (ρ 2 + 1)) := ⟨_, rfl⟩
      obtain ⟨m0, hm0⟩ : ∃ m0, m0 = sI (sI (sI (sI gm2 158 (40 + ρ 2) (nI 1)) 158 (48 + ρ 2) (nI 1)) 158 (56 + ρ 2) (nI 1)) 158 (64 + ρ 2) (nI 0) := ⟨_, rfl⟩
      have S0 : Same [142] gc2 g0 := by rw [hg0]; exact Same.ofI (by decide)
      have B0 : CT1 tp 900 s2 g0 := C2.1.same S0 (by decide)
      have R0 : g0.2.2 4 1 = 142 := by rw [hg0]; exact C2.2.2.1
      have Q0 : g0.1 142 2 = nI (ρ 2 + 1) := by rw [hg0]; exact sI_s
      have N0' : SM tp s2 (woS ρ 1 1 1 0) nS nK nm ed ck m0 := by
        rw [hm0]
        refine M2.of ((((Same.ofI (X := [158]) (by decide)).tr (Same.ofI (X := [158]) (by decide))).tr (Same.ofI (X := [158]) (by decide))).tr (Same.ofI (X := [158]) (by decide))) (by decide) ((((M2.2.1.upd (ρ' := fun j => if j = 40 + ρ 2 then 1 else ρ j) (by omega) (if_pos rfl) (fun j hj => if_neg hj)).upd (ρ' := fun j => if j = 40 + ρ 2 then 1 else if j = 48 + ρ 2 then 1 else ρ j) (by omega) ?_ (fun j hj => ?_)).upd (ρ' := fun j => if j = 40 + ρ 2 then 1 else if j = 48 + ρ 2 then 1 else if j = 56 + ρ 2 then 1 else ρ j) (by omega) ?_ (fun j hj => ?_)).upd (by omega) (woS_d 1 1 1 0) (fun j hj => ?_))
        · rw [if_neg (by omega), if_pos rfl]
        · by_cases z : j = 40 + ρ 2
          · rw [if_pos z, if_pos z]
          · rw [if_neg z, if_neg z, if_neg hj]
        · rw [if_neg (by omega), if_neg (by omega), if_pos rfl]
        · by_cases z : j = 40 + ρ 2
          · rw [if_pos z, if_pos z]
          · rw [if_neg z, if_neg z]
            by_cases z2 : j = 48 + ρ 2
            · rw [if_pos z2, if_pos z2]
            · rw [if_neg z2, if_neg z2, if_neg hj]
        · unfold woS
          rw [if_neg hj]
      have U0 : unM gm m0 := by rw [hm0]; exact ((((u2.tr unM.ofI158).tr unM.ofI158).tr unM.ofI158).tr unM.ofI158)
      have k0 : m0.1 155 18 = gm.1 155 18 := by rw [hm0, sI_ne1 (by decide), sI_ne1 (by decide), sI_ne1 (by decide), sI_ne1 (by decide)]; exact k18
      have w0 : m0.2.1 159 = gm2.2.1 159 := by rw [hm0]; rfl
      have V0 : Same unC gc g0 := u1.tr (S0.mono (fun a h1 => by simp only [List.mem_cons, List.not_mem_nil, or_false] at h1; subst h1; decide))
      rw [a1, a2, bndS, bndS, if_neg n10, if_neg n10, C2.2.2.1, lt_s1, if_pos i8, C2.2.1.1.2.2.1, nI_1, lt_s1, ← hg0, R0, lt_s1, if_pos i8, li_40, nI_add, if_pos (inb_nI (by omega) (by decide)), clp (by omega), lt_s1, li_48, nI_add, if_pos (inb_nI (by omega) (by decide)), clp (by omega), lt_s1, li_56, nI_add, if_pos (inb_nI (by omega) (by decide)), clp (by omega), lt_s1, li_64, nI_add, if_pos (inb_nI (by omega) (by decide)), clp (by omega), lt_s1]
      rw [show sI (sI (sI (sI gm2 158 (40 + ρ 2) 1) 158 (48 + ρ 2) 1) 158 (56 + ρ 2) 1) 158 (64 + ρ 2) 0 = m0 by rw [hm0]; rfl]
      -- beats
      have c1 := c_option (x1 := 306) (x2 := 142 + 5) (lo := 0) (hi := 9) T sl2 B0 R0 Q0 hk (by decide) (by decide) (by decide) (by decide)
      have m1 := m_option (i := 6) (v := 422607680627) (w := 422607680627) (lo := 0) (hi := 9) (lo' := 0) (hi' := 9) (pos := nI (40 + ρ 2)) (K := B_X13_readWord_115 (nI (ρ 2))) T N0' (by decide) (by decide +kernel) rfl rfl rfl rfl (by omega) (by omega) (woS_a 1 1 1 0) (by decide) (by decide)
      by_cases F1 : opF tp s2 306 0 9 = 0
      · obtain ⟨g1, ec1, B1, S1, v1, t1⟩ := c1.1 F1
        obtain ⟨m1', em1, sm1, U1, k1, w1⟩ := m1.1 F1
        have N1 := sm1 (woS ρ (opV tp s2 306) 1 1 0) (woS_a _ _ _ _) (fun j hj => woS_na hj)
        have R1 : g1.2.2 4 1 = 142 := by rw [(S1 4 (by decide)).2.2]; exact R0
        have Q1 : g1.1 142 2 = nI (ρ 2 + 1) := by rw [(S1 142 (by decide)).1]; exact Q0
        have V1 : Same unC gc g1 := V0.tr (S1.mono (fun a h1 => by simp only [List.mem_cons, List.not_mem_nil, or_false] at h1; rcases h1 with h1 | h1 <;> (subst h1; decide)))
        have sb3 := opS_ok (kw := 306) sl2 a4
        obtain ⟨s3, hs3⟩ : ∃ s3, s3 = opS tp s2 306 := ⟨_, rfl⟩
        rw [← hs3] at B1 N1 sb3
        obtain ⟨sg3, sl3, s39⟩ := sb3
        rw [show f_X6_readOption 306 (142 + 5) 0 9 g0 = some (1, g1) from ec1, em1, bndS, if_neg n10, R1, lt_s1, if_pos i8, wB115, li_48, nI_add]
        -- weighs
        have c2 := c_option (x1 := 307) (x2 := 142 + 6) (lo := 1) (hi := 60) T sl3 B1 R1 Q1 hk (by decide) (by decide) (by decide) (by decide)
        have m2 := m_option (i := 7) (v := 131277443786867) (w := 131277443786867) (lo := 1) (hi := 60) (lo' := 1) (hi' := 60) (pos := nI (48 + ρ 2)) (K := B_X13_readWord_154 (nI (ρ 2))) T N1 (by decide) (by decide +kernel) rfl rfl rfl rfl (by omega) (by omega) (woS_b _ 1 1 0) (by decide) (by decide)
        by_cases F2 : opF tp s3 307 1 60 = 0
        · obtain ⟨g2, ec2, B2, S2, v2, t2⟩ := c2.1 F2
          obtain ⟨m2', em2, sm2, U2, k2, w2⟩ := m2.1 F2
          have N2 := sm2 (woS ρ (opV tp s2 306) (opV tp s3 307) 1 0) (woS_b _ _ _ _) (fun j hj => woS_nb hj)
          have R2 : g2.2.2 4 1 = 142 := by rw [(S2 4 (by decide)).2.2]; exact R1
          have Q2 : g2.1 142 2 = nI (ρ 2 + 1) := by rw [(S2 142 (by decide)).1]; exact Q1
          have V2 : Same unC gc g2 := V1.tr (S2.mono (fun a h1 => by simp only [List.mem_cons, List.not_mem_nil, or_false] at h1; rcases h1 with h1 | h1 <;> (subst h1; decide)))
          have sb4 := opS_ok (kw := 307) sl3 s39
          obtain ⟨s4, hs4⟩ : ∃ s4, s4 = opS tp s3 307 := ⟨_, rfl⟩
          rw [← hs4] at B2 N2 sb4
          obtain ⟨sg4, sl4, s49⟩ := sb4
          rw [show f_X6_readOption 307 (142 + 6) 1 60 g1 = some (1, g2) from ec2, em2, bndS, if_neg n10, R2, lt_s1, if_pos i8, wB154, li_56, nI_add]
          -- costs
          have c3 := c_option (x1 := 308) (x2 := 142 + 7) (lo := 0) (hi := 99) T sl4 B2 R2 Q2 hk (by decide) (by decide) (by decide) (by decide)
          have m3 := m_option (i := 8) (v := 427071599731) (w := 427071599731) (lo := 0) (hi := 99) (lo' := 0) (hi' := 99) (pos := nI (56 + ρ 2)) (K := B_X13_readWord_193 (nI (ρ 2))) T N2 (by decide) (by decide +kernel) rfl rfl rfl rfl (by omega) (by omega) (woS_c _ _ 1 0) (by decide) (by decide)
          by_cases F3 : opF tp s4 308 0 99 = 0
          · obtain ⟨g3, ec3, B3, S3, v3, t3⟩ := c3.1 F3
            obtain ⟨m3', em3, sm3, U3, k3, w3⟩ := m3.1 F3
            have N3 := sm3 (woS ρ (opV tp s2 306) (opV tp s3 307) (opV tp s4 308) 0) (woS_c _ _ _ _) (fun j hj => woS_nc hj)
            have R3 : g3.2.2 4 1 = 142 := by rw [(S3 4 (by decide)).2.2]; exact R2
            have V3 : Same unC gc g3 := V2.tr (S3.mono (fun a h1 => by simp only [List.mem_cons, List.not_mem_nil, or_false] at h1; rcases h1 with h1 | h1 <;> (subst h1; decide)))
            have sb5 := opS_ok (kw := 308) sl4 s49
            obtain ⟨s5, hs5⟩ : ∃ s5, s5 = opS tp s4 308 := ⟨_, rfl⟩
            rw [← hs5] at B3 N3 sb5
            obtain ⟨sg5, sl5, s59⟩ := sb5
            have Va := opV_in (lo := 0) (hi := 9) (by omega) (by omega) F1
            have Vb := opV_in (lo := 1) (hi := 60) (by omega) (by omega) F2
            have Vc := opV_in (lo := 0) (hi := 99) (by omega) (by omega) F3
            obtain ⟨a, ha⟩ : ∃ a, a = opV tp s2 306 := ⟨_, rfl⟩
            obtain ⟨b, hb⟩ : ∃ b, b = opV tp s3 307 := ⟨_, rfl⟩
            obtain ⟨c, hc⟩ : ∃ c, c = opV tp s4 308 := ⟨_, rfl⟩
            rw [← ha] at Va v1 N3
            rw [← hb] at Vb v2 N3
            rw [← hc] at Vc v3 N3
            have W3 : unM gm m3' := ((U0.tr U1).tr U2).tr U3
            have k3' : m3'.1 155 18 = gm.1 155 18 := (k3.trans (k2.trans k1)).trans k0
            have w3' : m3'.2.1 159 = gm2.2.1 159 := (w3.trans (w2.trans w1)).trans w0
            -- the class's cells since the NAME
            have SS : Same [5, 142, 147, 148, 149] gc2 g3 := ((S0.mono (by decide)).tr (S1.mono (by decide))).tr ((S2.mono (by decide)).tr (S3.mono (by decide)))
            have i142 : ∀ j, g3.1 142 j = g0.1 142 j := fun j => by rw [(S3 142 (by decide)).1, (S2 142 (by decide)).1, (S1 142 (by decide)).1]
            have l142 : g3.2.1 142 = gc2.2.1 142 := by rw [(S3 142 (by decide)).2.1, (S2 142 (by decide)).2.1, (S1 142 (by decide)).2.1, hg0]; rfl
            have f7 : g3.1 147 (ρ 2) = nI a ∧ ∀ j, j ≠ ρ 2 → g3.1 147 j = gc2.1 147 j := by
              rw [(S3 147 (by decide)).1, (S2 147 (by decide)).1]
              exact ⟨v1, fun j hj => by rw [show g1.1 147 j = g0.1 147 j from t1 j hj, (S0 147 (by decide)).1]⟩
            have f8 : g3.1 148 (ρ 2) = nI b ∧ ∀ j, j ≠ ρ 2 → g3.1 148 j = gc2.1 148 j := by
              rw [(S3 148 (by decide)).1]
              exact ⟨v2, fun j hj => by rw [show g2.1 148 j = g1.1 148 j from t2 j hj, (S1 148 (by decide)).1, (S0 148 (by decide)).1]⟩
            have f9 : g3.1 149 (ρ 2) = nI c ∧ ∀ j, j ≠ ρ 2 → g3.1 149 j = gc2.1 149 j := ⟨v3, fun j hj => by rw [show g3.1 149 j = g2.1 149 j from t3 j hj, (S2 149 (by decide)).1, (S1 149 (by decide)).1, (S0 149 (by decide)).1]⟩
            have idl3 : g3.1 142 11 = nI (idl ρ) := by rw [i142, hg0, sI_nk1 (by decide)]; exact C2.2.1.2.2.2.2.2.1.2
            obtain ⟨iw1, iw2⟩ := idl_wo (a := a) (b := b) (c := c) (d := 1) H hk
            have rest : ∀ j, j ≠ 2 → g3.1 142 j = gc2.1 142 j := fun j hj => by rw [i142, hg0, sI_nk1 hj]
            have four : ∀ q : Hp, q.1 4 = g3.1 4 → q.1 4 2 = nI ed ∧ q.1 4 3 = nI ck ∧ q.1 4 4 = nI 0 := fun q hq => by
              rw [hq, (SS 4 (by decide)).1]
              exact ⟨C2.2.2.2.1, C2.2.2.2.2.1, C2.2.2.2.2.2⟩
            rw [show f_X6_readOption 308 (142 + 7) 0 99 g2 = some (1, g3) from ec3, em3, bndS, if_neg n10]
            have wI : f_X13_isWord 1768189029 m3' = some (nI (decide (kwT tp 900 s5 = 309)).toNat, m3') := mw (i := 9) (by decide) (by decide +kernel) N3.1
            unfold B_X6_readWord_117 B_X13_readWord_193
            rw [if_neg n10, c_kw B3, lt_s1, if_pos (kwT_kw 900 s5), wI, bndS]
            have mf : ∀ d q, SM tp s5 (woS ρ a b c d) nS nK nm ed ck q → B_X13_readWord_217 q = some (1, sI q 158 2 (nI (ρ 2 + 1))) := fun d q Mq => by
              unfold B_X13_readWord_217
              rw [show (2 : Int32).toNatClampNeg = 2 from rfl, Mq.2.1.1 2 (by omega), woS_o (by omega) (by omega) (by omega) (by omega), nI_1, lt_s1]
            by_cases hI : kwT tp 900 s5 = 309
            · -- idle
              obtain ⟨g4, hg4⟩ : ∃ g4, g4 = sI g3 142 11 (nI (idl ρ + 1 * 2 ^ ρ 2)) := ⟨_, rfl⟩
              have S4 : Same [142] g3 g4 := by rw [hg4]; exact Same.ofI (by decide)
              have R4 : RgC g4 142 (woF ρ a b c 1) nS nK (woN ρ nm l) := by
                refine C2.2.1.word H hk (SS.tr (S4.mono (by decide))) ?_ (fun j h2 h11 => ?_) ?_ ?_ ?_ ?_ ?_ n1
                · rw [hg4, sI_nk1 (by decide), i142]; exact Q0
                · rw [hg4, sI_nk1 h11]; exact rest j h2
                · rw [hg4]; exact l142
                · rw [hg4]; exact sI_s
                · rw [(S4 147 (by decide)).1]; exact f7
                · rw [(S4 148 (by decide)).1]; exact f8
                · rw [(S4 149 (by decide)).1]; exact f9
              have C4 : SC tp s5 (woF ρ a b c 1) nS nK (woN ρ nm l) ed ck g4 := ⟨B3.same S4 (by decide), R4, by rw [(S4 4 (by decide)).2.2]; exact R3, four g4 (S4 4 (by decide)).1⟩
              obtain ⟨g5, a9, a10, C5⟩ := C4.adv5 T sl5
              obtain ⟨m5, b9, b10, b11, N5⟩ := N3.nx5 T
              have N6 : SM tp (tkB tp 900 (tkX tp 900 s5)) (woS ρ a b c 1) nS nK nm ed ck (sI m5 158 (64 + ρ 2) 1) := N5.of (Same.ofI (X := [158]) (by decide)) (by decide) (N5.2.1.upd (v := 1) (by omega) (woS_d a b c 1) (fun j hj => woS_nd hj))
              have N7 : SM tp (tkB tp 900 (tkX tp 900 s5)) (woF ρ a b c 1) nS nK (woN ρ nm l) ed ck (sI (sI m5 158 (64 + ρ 2) 1) 158 2 (nI (ρ 2 + 1))) := N6.of (Same.ofI (X := [158]) (by decide)) (by decide) (N6.2.1.word hk (by
                show m5.2.1 159 (24 + ρ 2) = _
                rw [(b10 159 (by decide)).2.1, w3', show 24 + ρ 2 = 16 + (8 + ρ 2) by omega]; exact n2))
              have ge := tkB_ge (tp := tp) (L := 900) (s := s5) (by omega)
              have ev : nI (idl ρ) ||| jshl 1 (nI (ρ 2)) = nI (idl ρ + 1 * 2 ^ ρ 2) := by
                rw [li_1, shl1 (by omega), fa_or, ← or_add iw2, Nat.one_mul]
              rw [if_pos hI, decide_eq_true hI, if_neg (show ¬ nI true.toNat = 0 by decide), R3, lt_s1, if_pos i8, idl3, ev, lt_s1, ← hg4, a9, bnvS, if_pos (show isZ 1 = true by decide), b9, bnvS, li_64, nI_add, if_pos (inb_nI (by omega) (by decide)), clp (by omega), lt_s1]
              refine Or.inr ⟨_, woF ρ a b c 1, nS, nK, woN ρ nm l, ed, ck, g5, sI (sI m5 158 (64 + ρ 2) 1) 158 2 (nI (ρ 2 + 1)), rfl, ?_, by omega, ⟨T, O2.2.1.word hk a5 Va.2 Vb Vc.2 (by omega), (tkB_le tp 900 _).1, O2.2.2.2⟩, C5, N7, ?_, ?_, ?_⟩
              · unfold B_X13_readWord_217
                rw [show (2 : Int32).toNatClampNeg = 2 from rfl, N6.2.1.1 2 (by omega), woS_o (by omega) (by omega) (by omega) (by omega), nI_1, lt_s1]
              · rw [sI_ne1 (by decide), sI_ne1 (by decide), b11.1 18 (by decide)]; exact k3'
              · exact V3.tr ((S4.mono (fun a h1 => by simp only [List.mem_cons, List.not_mem_nil, or_false] at h1; subst h1; decide)).tr (unC5 a10))
              · exact ((W3.tr (unM.ofF b10 b11)).tr unM.ofI158).tr unM.ofI158
            · have R4 : RgC g3 142 (woF ρ a b c 0) nS nK (woN ρ nm l) := by
                refine C2.2.1.word H hk SS ?_ (fun j h2 h11 => rest j h2) l142 ?_ f7 f8 f9 n1
                · rw [i142]; exact Q0
                · rw [idl3, Nat.zero_mul, Nat.add_zero]
              have C4 : SC tp s5 (woF ρ a b c 0) nS nK (woN ρ nm l) ed ck g3 := ⟨B3, R4, R3, four g3 rfl⟩
              have N7 : SM tp s5 (woF ρ a b c 0) nS nK (woN ρ nm l) ed ck (sI m3' 158 2 (nI (ρ 2 + 1))) := N3.of (Same.ofI (X := [158]) (by decide)) (by decide) (N3.2.1.word hk (by
                rw [w3', show 24 + ρ 2 = 16 + (8 + ρ 2) by omega]; exact n2))
              rw [if_neg hI, decide_eq_false hI, if_pos (show nI false.toNat = 0 from rfl), if_pos (show isZ 1 = true by decide), mf 0 m3' N3]
              exact Or.inr ⟨s5, woF ρ a b c 0, nS, nK, woN ρ nm l, ed, ck, g3, _, rfl, rfl, by omega, ⟨T, O2.2.1.word hk a5 Va.2 Vb Vc.2 (by omega), sl5, O2.2.2.2⟩, C4, N7, by rw [sI_ne1 (by decide)]; exact k3', V3, W3.tr unM.ofI158⟩
          · obtain ⟨g3, ec3, f4, f5, S3⟩ := c3.2 F3
            obtain ⟨m3', em3, f6, f7, U3⟩ := m3.2 F3
            have fl := opF_le (tp := tp) s4 308 0 99
            have nl := nxt_le (tp := tp) s4
            rw [show f_X6_readOption 308 (142 + 7) 0 99 g2 = some (0, g3) from ec3, em3, bndS, if_pos z0, c117_0]
            exact Or.inl ⟨_, _, g3, m3', rfl, rfl, by omega, by omega, by omega, f4, f5, f6, f7, V2.tr (S3.mono (fun a h1 => by simp only [List.mem_cons, List.not_mem_nil, or_false] at h1; rcases h1 with h1 | h1 | h1 <;> (subst h1; decide))), ((U0.tr U1).tr U2).tr U3⟩
        · obtain ⟨g3, ec3, f4, f5, S3⟩ := c2.2 F2
          obtain ⟨m3', em3, f6, f7, U3⟩ := m2.2 F2
          have fl := opF_le (tp := tp) s3 307 1 60
          have nl := nxt_le (tp := tp) s3
          rw [show f_X6_readOption 307 (142 + 6) 1 60 g1 = some (0, g3) from ec3, em3, bndS, if_pos z0, c117_0]
          exact Or.inl ⟨_, _, g3, m3', rfl, rfl, by omega, by omega, by omega, f4, f5, f6, f7, V1.tr (S3.mono (fun a h1 => by simp only [List.mem_cons, List.not_mem_nil, or_false] at h1; rcases h1 with h1 | h1 | h1 <;> (subst h1; decide))), (U0.tr U1).tr U3⟩
      · obtain ⟨g3, ec3, f4, f5, S3⟩ := c1.2 F1
        obtain ⟨m3', em3, f6, f7, U3⟩ := m1.2 F1
        have fl := opF_le (tp := tp) s2 306 0 9
        have nl := nxt_le (tp := tp) s2
        rw [show f_X6_readOption 306 (142 + 5) 0 9 g0 = some (0, g3) from ec3, em3, bndS, if_pos z0, c117_0]
        exact Or.inl ⟨_, _, g3, m3', rfl, rfl, by omega, by omega, by omega, f4, f5, f6, f7, V0.tr (S3.mono (fun a h1 => by simp only [List.mem_cons, List.not_mem_nil, or_false] at h1; rcases h1 with h1 | h1 | h1 <;> (subst h1; decide))), U0.tr U3⟩
  · have e5 : ρ 2 = 8 := by omega
    rw [if_neg (show ¬ nI (ρ 2) < 8 from nI_nlt (b := 8) (by omega) (by omega)), if_pos (show nI (ρ 2) = 8 by rw [e5]; rfl), show f_X6_refuse 4 gc = some (0, gfF gc 4 s) from c_refuse (k := 4) C.1, show f_X13_bad 4 gm = some (0, mfF gm 4 s) from m_badT (k := 4) M.1, bndS, bndS, if_pos (show isZ 0 = true by decide), if_pos (show isZ 0 = true by decide)]
    exact Or.inl (bad_here O.s1000 (by omega))
end UNGR
