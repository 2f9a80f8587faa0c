section UNGU
variable {tp : List Nat} {ρ ρ' σ : Nat → Nat} {nS nK nm N nS' nK' nm' : Nat → List Nat} {h h' gc gc1 gm : Hp} {s ed ck : Nat} {rc rm : Option (Int32 × Hp)}
def chK4 (h55 : Hp) : Option (Int32 × Hp) :=
  bnd (f_X13_bad 4 h55) fun v57 h56 =>
  if isZ v57 = true then
  some (v57, h56)
  else none
def chFC (w q : Nat) (self : Int32 → Hp → Option (Int32 × Hp)) : Int32 → Hp → Option (Int32 × Hp) := F_X6_readReads_91 (nI w) (nI q) (fun h29 => some (0, h29)) (fun h30 => B_X6_readReads_121 h30) self
def chFM (w q : Nat) (self : Int32 → Hp → Option (Int32 × Hp)) : Int32 → Hp → Option (Int32 × Hp) := F_X13_readReads_139 (nI (112 + 8 * (5 * w + q))) chK4 (fun h59 => some (0, h59)) (fun h60 => some (1, h60)) self
theorem c121 (B : CT1 tp 900 s h) : B_X6_readReads_121 h = if chT tp s = false then some (1, h) else some (0, gfF h 4 s) := by
  unfold B_X6_readReads_121
  rw [c_isCh B, bndS]
  cases hc : chT tp s
  · rw [if_pos (show nI false.toNat = 0 from rfl), if_pos rfl]
  · rw [if_neg (show ¬ nI true.toNat = 0 by decide), if_neg (show ¬ true = false by decide), show f_X6_refuse 4 h = some (0, gfF h 4 s) from c_refuse (k := 4) B, bndS, if_pos (show (0 : Int32) = 0 from rfl)]
theorem cg_step {w q i : Nat} (sC sM : Int32 → Hp → Option (Int32 × Hp)) (hs : s ≤ 900) (hi : i ≤ 6) (hw : w < ρ 2) (hq : q < ρ 0) (h1 : ρ (72 + 5 * w + q) = 1) (O : SO tp s ρ nS nK nm ed ck) (C : SC tp s ρ nS nK nm ed ck gc) (M : SM tp s ρ nS nK nm ed ck gm) (IH : ∀ s' ρ' gc' gm', i < 6 → s' ≤ 900 → w < ρ' 2 → q < ρ' 0 → ρ' (72 + 5 * w + q) = 1 → SO tp s' ρ' nS nK nm ed ck → SC tp s' ρ' nS nK nm ed ck gc' → SM tp s' ρ' nS nK nm ed ck gm' → bad2 gc' gm' (sC (nI (i + 1)) gc') (sM (nI (i + 1)) gm') ∨ good2 tp s' gc' gm' (sC (nI (i + 1)) gc') (sM (nI (i + 1)) gm')) : bad2 gc gm (chFC w q sC (nI i) gc) (chFM w q sM (nI i) gm) ∨ good2 tp s gc gm (chFC w q sC (nI i) gc) (chFM w q sM (nI i) gm) := by
  unfold chFC chFM
  rw [c_ch1 hi C.1, m_ch1 hi M.1]
  have e1 := c121 C.1
  cases ht : chT tp s
  · rw [ht, if_pos rfl] at e1
    rw [if_pos rfl, if_pos rfl, ite_self]
    show bad2 gc gm (B_X6_readReads_121 gc) (some (1, gm)) ∨ good2 tp s gc gm (B_X6_readReads_121 gc) (some (1, gm))
    rw [e1]
    exact Or.inr ⟨s, ρ, nS, nK, nm, ed, ck, gc, gm, rfl, rfl, Nat.le_refl _, O, C, M, rfl, Same.rf, unM.rf⟩
  · rw [ht, if_neg (show ¬ true = false by decide)] at e1
    rw [if_neg (show ¬ true = false by decide), if_neg (show ¬ true = false by decide)]
    by_cases i6 : i = 6
    · rw [if_pos i6, if_pos i6]
      show bad2 gc gm (B_X6_readReads_121 gc) (chK4 gm) ∨ good2 tp s gc gm (B_X6_readReads_121 gc) (chK4 gm)
      unfold chK4
      rw [e1, show f_X13_bad 4 gm = some (0, mfF gm 4 s) from m_badT (k := 4) M.1, bndS, if_pos (show isZ 0 = true by decide)]
      exact Or.inl (bad_here O.s1000 (by omega))
    · rw [if_neg i6, if_neg i6]
      rcases ch2 (i := i) chK4 (fun h60 => some (1, h60)) sM hs (by omega) hw hq h1 ht O C M with r | ⟨s', ρ', gc', gm', a1, a2, a3, a4, O2, C2, M2, ⟨w2, q2, r2⟩, k18, u1, u2⟩
      · obtain ⟨k, p, gc', gm', b1, b2, r⟩ := r
        exact Or.inl ⟨k, p, gc', gm', by rw [b1, bndS]; exact if_pos rfl, b2, r⟩
      · rw [a1, a2, bndS, if_neg (show ¬ (1 : Int32) = 0 by decide)]
        rcases IH s' ρ' gc' gm' (by omega) a4 w2 q2 r2 O2 C2 M2 with r | r
        · exact Or.inl (r.tr u1 u2)
        · exact Or.inr (r.tr a3 k18 u1 u2)
theorem cg_loop {w q : Nat} : ∀ d i s ρ gc gm fC fM, i + d = 6 → d < fC → d < fM → s ≤ 900 → w < ρ 2 → q < ρ 0 → ρ (72 + 5 * w + q) = 1 → SO tp s ρ nS nK nm ed ck → SC tp s ρ nS nK nm ed ck gc → SM tp s ρ nS nK nm ed ck gm → bad2 gc gm (itr2 (chFC w q) fC (nI i) gc) (itr2 (chFM w q) fM (nI i) gm) ∨ good2 tp s gc gm (itr2 (chFC w q) fC (nI i) gc) (itr2 (chFM w q) fM (nI i) gm) := by
  intro d
  induction d with
  | zero =>
    intro i s ρ gc gm fC fM hd h1 h2 hs hw hq r1 O C M
    obtain ⟨fC, rfl⟩ : ∃ q, fC = q + 1 := ⟨fC - 1, by omega⟩
    obtain ⟨fM, rfl⟩ : ∃ q, fM = q + 1 := ⟨fM - 1, by omega⟩
    rw [itr2_s, itr2_s]
    exact cg_step _ _ hs (by omega) hw hq r1 O C M (fun _ _ _ _ q1 => by omega)
  | succ d ih =>
    intro i s ρ gc gm fC fM hd h1 h2 hs hw hq r1 O C M
    obtain ⟨fC, rfl⟩ : ∃ q, fC = q + 1 := ⟨fC - 1, by omega⟩
    obtain ⟨fM, rfl⟩ : ∃ q, fM = q + 1 := ⟨fM - 1, by omega⟩
    rw [itr2_s, itr2_s]
    exact cg_step _ _ hs (by omega) hw hq r1 O C M (fun s' ρ' gc' gm' q1 q2 q3 q4 q5 q6 q7 q8 => ih (i + 1) s' ρ' gc' gm' fC fM (by omega) (by omega) (by omega) q2 q3 q4 q5 q6 q7 q8)
/-- READS -/
theorem rd_reads (hs : s ≤ 900) (O : SO tp s ρ nS nK nm ed ck) (C : SC tp s ρ nS nK nm ed ck gc) (M : SM tp s ρ nS nK nm ed ck gm) : bad2 gc gm (f_X6_readReads gc) (f_X13_readReads gm) ∨ good2 tp s gc gm (f_X6_readReads gc) (f_X13_readReads gm) := by
  have T := O.1
  have H := O.2.1.1
  have okS := O.2.1.2.1
  obtain ⟨h5, h3, h8, -⟩ := H.1
  have nb := N0_big
  have okM : ∀ w, w < ρ 2 → okNm (nm w) := fun w hw => (H.2.2.2.1 w hw).2.2.2.2
  have i8 : isO 8 142 = true := by decide
  have n10 : ¬ (1 : Int32) = 0 := by decide
  have z0 : (0 : Int32) = 0 := rfl
  obtain ⟨gc1, gm1, a1, b1, O1, C1, M1, a2, b2, b3⟩ := both_nx O C M
  have g1 := tkB_ge (tp := tp) (L := 900) (s := s) (by have := O.2.2.1; omega)
  obtain ⟨s1, hs1⟩ : ∃ s1, s1 = tkB tp 900 (tkX tp 900 s) := ⟨_, rfl⟩
  rw [← hs1] at C1 M1 O1 g1
  have s19 : s1 ≤ 900 := by rw [hs1]; exact (tkB_le tp 900 _).2
  unfold f_X6_readReads f_X13_readReads
  rw [a1, b1, bnvS, bnvS, C1.2.2.1, lt_s1, if_pos i8, C1.2.1.1.2.2.1, show f_X6_toldHere 8 (nI (ρ 2)) gc1 = _ from c_told (base := 8) (n := ρ 2) (f := nm) (t := 142) i8 C1.2.1.2.1.2.2 okM (by omega) C1.2.2.1 C1.1, show (2 : Int32).toNatClampNeg = 2 from rfl, M1.2.1.1 2 (by omega), show f_X13_takesName 24 (nI (ρ 2)) gm1 = _ from m_takesName (base := 24) M1.2.1.2.2.2 okM (by omega) M1.2.2.1 M1.1]
  cases hn : isNm tp 900 s1
  · rw [if_pos rfl, if_pos rfl, bndS, bndS, if_neg (show ¬ (0 : Int32) ≤ -1 by decide), if_pos z0]
    exact Or.inl ((bad_here O1.s1000 (by omega)).tr a2 b2)
  · rw [if_neg (show ¬ true = false by decide), if_neg (show ¬ true = false by decide)]
    by_cases hi : ixN nm (ρ 2) (nmT tp s1) < ρ 2
    · rw [if_pos hi, if_pos hi]
      obtain ⟨a, ha⟩ : ∃ a, a = ixN nm (ρ 2) (nmT tp s1) := ⟨_, rfl⟩
      rw [← ha] at hi ⊢
      obtain ⟨gc2, a3, a4, C2⟩ := C1.adv5 T O1.2.2.1
      obtain ⟨gm2, b4, b5, b6, M2⟩ := (M1.put (k := 17) (v := nI a) (by decide)).nx5 T
      have O2 := tkB_ok T O1
      have g2 := tkB_ge (tp := tp) (L := 900) (s := s1) (by have := O1.2.2.1; omega)
      obtain ⟨s2, hs2⟩ : ∃ s2, s2 = tkB tp 900 (tkX tp 900 s1) := ⟨_, rfl⟩
      rw [← hs2] at C2 M2 O2 g2
      have s29 : s2 ≤ 900 := by rw [hs2]; exact (tkB_le tp 900 _).2
      have t17 : gm2.1 155 17 = nI a := by rw [b6.1 17 (by decide)]; exact sI_s
      have U2 : unM gm gm2 := b2.tr ((unM.ofI155 (k := 17) (by decide)).tr (unM.ofF b5 b6))
      have k18 : gm2.1 155 18 = gm.1 155 18 := by rw [b6.1 18 (by decide), sI_nk1 (by decide)]; exact b3 18 (by decide)
      have V2 : Same unC gc gc2 := a2.tr (unC5 a4)
      have bc3 : f_X6_refuse 3 gc2 = some (0, gfF gc2 3 s2) := c_refuse (k := 3) C2.1
      have bm3 : B_X13_readReads_73 gm2 = some (0, mfF gm2 3 s2) := by
        unfold B_X13_readReads_73
        rw [show f_X13_bad 3 gm2 = some (0, mfF gm2 3 s2) from m_badT (k := 3) M2.1, bndS, if_pos (show isZ 0 = true by decide)]
      rw [bndS, if_pos (ix_ge hi (by omega)), a3, b4, bnvS, bnvS, bndS, if_neg n10, t17, lt_s1, lt_s1, C2.2.2.1, if_pos i8, C2.2.1.1.1, show f_X6_toldHere 0 (nI (ρ 0)) gc2 = _ from c_told (base := 0) (n := ρ 0) (f := nS) (t := 142) i8 (fun w hw => by rw [Nat.zero_add]; exact C2.2.1.2.1.1 w hw) okS (by omega) C2.2.2.1 C2.1, m_isNameT M2.1 M2.2.2.1, bndS]
      cases hn2 : isNm tp 900 s2
      · rw [if_pos rfl, if_pos (show nI false.toNat = 0 from rfl), bndS, if_pos (show (-1 : Int32) < 0 by decide), show f_X13_bad 1 gm2 = some (0, mfF gm2 1 s2) from m_badT (k := 1) M2.1, bndS, if_pos (show isZ 0 = true by decide)]
        exact Or.inl ((bad_here O2.s1000 (by omega)).tr V2 U2)
      · rw [if_neg (show ¬ true = false by decide), if_neg (show ¬ nI true.toNat = 0 by decide), show (0 : Int32).toNatClampNeg = 0 from rfl, M2.2.1.1 0 (by omega), show f_X13_find 16 (nI (ρ 0)) gm2 = _ from m_ixName (base := 16) M2.2.1.2.1 okS (by omega) M2.1 (isNm_1 hn2)]
        by_cases hj : ixN nS (ρ 0) (nmT tp s2) < ρ 0
        · rw [if_pos hj, if_pos hj]
          obtain ⟨b, hb⟩ : ∃ b, b = ixN nS (ρ 0) (nmT tp s2) := ⟨_, rfl⟩
          rw [← hb] at hj ⊢
          have f1 : ρ (72 + 5 * a + b) ≤ 1 := H.2.2.2.2.1 _ (by omega) (by omega)
          rw [bndS, bndS, if_neg (show ¬ nI b < 0 from nI_nlt (b := 0) (by omega) (by omega)), if_neg (show ¬ nI b < 0 from nI_nlt (b := 0) (by omega) (by omega)), C2.2.2.1, lt_s1, if_pos i8, cR_readsAs (t := 142) C2.2.1.2.2.2.2.2.1.1 H (by omega) (by omega), bndS, show (72 + 5 * nI a + nI b : Int32) = nI (72 + 5 * a + b) by rw [li_72, li_5, pk_mul, nI_add, nI_add], if_pos (inb_nI (by omega) (by decide)), clp (by omega), M2.2.1.1 _ (by omega)]
          by_cases hf : ρ (72 + 5 * a + b) = 1
          · rw [decide_eq_true hf, if_neg (show ¬ nI true.toNat = 0 by decide), if_pos (show nI (ρ (72 + 5 * a + b)) = 1 by rw [hf]; rfl), bc3, bm3, bndS, if_pos z0]
            exact Or.inl ((bad_here O2.s1000 (by omega)).tr V2 U2)
          · have f0 : ρ (72 + 5 * a + b) = 0 := by omega
            have Cx : SC tp s2 (ldS ρ a b) nS nK nm ed ck (sI gc2 150 a (nI (rds (ldS ρ a b) a))) := C2.of (Same.ofI (X := [150]) (by decide)) (by decide) (C2.2.1.ld H hi hj f0)
            obtain ⟨gc3, a5, a6, C3⟩ := Cx.adv5 T O2.2.2.1
            obtain ⟨gm3, b7, b8, b9, M3⟩ := M2.nx5 T
            have Mx : SM tp (tkB tp 900 (tkX tp 900 s2)) (ldS ρ a b) nS nK nm ed ck (wrH (sI gm3 158 (72 + 5 * a + b) 1) 158 (112 + 8 * (5 * a + b)) (fun i => i) 8) := M3.of ((Same.ofI (X := [158]) (by decide)).tr (wrH_S 8)) (by decide) (M3.2.1.ld (by omega) (by omega))
            have O3 : SO tp s2 (ldS ρ a b) nS nK nm ed ck := ⟨T, O.2.1.ld hi hj, O2.2.2⟩
            have g3 := tkB_ge (tp := tp) (L := 900) (s := s2) (by have := O2.2.2.1; omega)
            have r := cg_loop (w := a) (q := b) 6 0 _ (ldS ρ a b) gc3 _ N0 N0 (by omega) (by omega) (by omega) (tkB_le tp 900 _).2 (by rw [ldS_n (by omega) (by omega)]; exact hi) (by rw [ldS_n (by omega) (by omega)]; exact hj) (ldS_y a b) (tkB_ok T O3) C3 Mx
            have cE : B_X6_readReads_73 (nI a) (nI b) gc2 = itr2 (chFC a b) N0 (nI 0) gc3 := by
              unfold B_X6_readReads_73
              rw [C2.2.2.1, lt_s1, if_pos i8, c_turnR (t := 142) (by omega) (by omega) (C2.2.1.2.2.2.2.2.1.1 a (by omega)), (rds_ld H hi hj f0).1, bnvS, show (142 + 8 : Nat) = 150 from rfl, a5, bnvS]
              rfl
            rw [decide_eq_false hf, if_pos (show nI false.toNat = 0 from rfl), if_neg (show ¬ nI (ρ (72 + 5 * a + b)) = 1 by rw [f0]; decide), b7, bnvS, if_pos (inb_nI (by omega) (by decide)), lt_s1, show (112 + 8 * (5 * nI a + nI b) : Int32) = nI (112 + 8 * (5 * a + b)) by rw [li_112, li_8, li_5, pk_mul, nI_add, pk_mul, nI_add], lt_s1, m_fill (by omega), cE]
            have V3 : Same unC gc gc3 := V2.tr ((Same.ofI (by decide)).tr (unC5 a6))
            have U3 : unM gm (wrH (sI gm3 158 (72 + 5 * a + b) 1) 158 (112 + 8 * (5 * a + b)) (fun i => i) 8) := ((U2.tr (unM.ofF b8 b9)).tr unM.ofI158).tr (wrH_158 8)
            have k3 : (wrH (sI gm3 158 (72 + 5 * a + b) 1) 158 (112 + 8 * (5 * a + b)) (fun i => i) 8).1 155 18 = gm.1 155 18 := by
              rw [(wrH_S 8 155 (by decide)).1, sI_ne1 (by decide), b9.1 18 (by decide)]; exact k18
            rcases r with r | r
            · exact Or.inl (r.tr V3 U3)
            · exact Or.inr (r.tr (by omega) k3 V3 U3)
        · rw [if_neg hj, if_neg hj, bndS, bndS, if_pos (show (-1 : Int32) < 0 by decide), if_pos (show (-1 : Int32) < 0 by decide), bm3]
          exact Or.inl ((bad_here O2.s1000 (by omega)).tr V2 U2)
    · rw [if_neg hi, if_neg hi, bndS, bndS, if_neg (show ¬ (0 : Int32) ≤ -1 by decide), if_pos z0]
      exact Or.inl (((bad_here O1.s1000 (by omega)).tr Same.rf (unM.ofI155 (k := 17) (by decide))).tr a2 b2)
end UNGU
