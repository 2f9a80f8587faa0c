section UNGV
variable {tp : List Nat} {ρ ρ' σ : Nat → Nat} {nS nK nm N nS' nK' nm' : Nat → List Nat} {h h' gc gc1 gm : Hp} {s ed ck : Nat} {rc rm : Option (Int32 × Hp)}
/-- both have read a LINE alike -/
def good3 (tp : List Nat) (s : Nat) (gc gm : Hp) (rc rm : Option (Int32 × Hp)) : Prop := ∃ s' ρ nS nK nm ed ck gc' gm', rc = some (1, gc') ∧ rm = some (1, gm') ∧ s < s' ∧ s' ≤ 900 ∧ SO tp s' ρ nS nK nm ed ck ∧ SC tp s' ρ nS nK nm ed ck gc' ∧ SM tp s' ρ nS nK nm ed ck gm' ∧ gm'.1 155 18 = gm.1 155 18 ∧ Same unC gc gc' ∧ unM gm gm'
theorem rd_close3 (O : SO tp s ρ nS nK nm ed ck) (C : SC tp s ρ nS nK nm ed ck gc) (M : SM tp s ρ nS nK nm ed ck gm) : bad2 gc gm (f_X6_readClose gc) (f_X13_sign 59 gm) ∨ good3 tp s gc gm (f_X6_readClose gc) (f_X13_sign 59 gm) := by
  rw [c_close C.1, m_signT M.1]
  by_cases h1 : tkQ tp 900 s = 3
  · obtain ⟨gc', gm', e1, e2, O1, C1, M1, u1, u2, u3⟩ := both_nx O C M
    rw [if_pos h1, if_pos h1, e1, e2, bnvS, bnvS]
    have lt1 : s < min tp.length 900 := by
      unfold tkQ at h1
      by_cases z : s < min tp.length 900
      · exact z
      · rw [if_neg z] at h1; omega
    have lt2 : s < tkB tp 900 (tkX tp 900 s) := by
      have a : s + 1 ≤ tkX tp 900 s := by
        unfold tkX
        rw [if_pos lt1]
        omega
      have b : tkX tp 900 s ≤ to1 isBl tp tp.length (tkX tp 900 s) := Nat.le_add_right _ _
      unfold tkB
      omega
    exact Or.inr ⟨_, ρ, nS, nK, nm, ed, ck, gc', gm', rfl, rfl, lt2, (tkB_le tp 900 _).2, O1, C1, M1, u3 18 (by decide), u1, u2⟩
  · rw [if_neg h1, if_neg h1]
    exact Or.inl (bad_here O.s1000 (by omega))
def lnC (rc : Option (Int32 × Hp)) : Option (Int32 × Hp) :=
  bnd rc fun v10 h9 =>
  (if v10 = 0 then
    some (0, h9)
  else
    bnd (f_X6_readClose h9) fun v13 h12 =>
    (if v13 = 0 then
      some (0, h12)
    else
      some (1, h12)))
def lnM (rm : Option (Int32 × Hp)) : Option (Int32 × Hp) :=
  bnd rm fun v11 h10 =>
  (if v11 = 0 then
    some (0, h10)
  else f_X13_sign 59 h10)
def lnZ (rm : Option (Int32 × Hp)) : Option (Int32 × Hp) :=
  bnd rm fun v11 h10 =>
  if isZ v11 = true then
  some (v11, h10)
  else none
theorem ln2 (r : bad2 gc gm rc rm ∨ good2 tp s gc gm rc rm) : bad2 gc gm (lnC rc) (lnM rm) ∨ good3 tp s gc gm (lnC rc) (lnM rm) := by
  rcases r with r | ⟨s', ρ, nS, nK, nm, ed, ck, gc', gm', a1, a2, a3, O, C, M, k18, u1, u2⟩
  · exact Or.inl (r.bnd (fun _ => if_pos rfl) (fun _ => if_pos rfl))
  · unfold lnC lnM
    rw [a1, a2, bndS, bndS, if_neg (show ¬ (1 : Int32) = 0 by decide), if_neg (show ¬ (1 : Int32) = 0 by decide)]
    rcases rd_close3 O C M with r | ⟨s2, ρ2, nS2, nK2, nm2, ed2, ck2, gc2, gm2, b1, b2, b3, b4, O2, C2, M2, k2, v1, v2⟩
    · obtain ⟨k, q, gc2, gm2, b1, b2, r⟩ := r
      exact Or.inl (bad2.tr ⟨k, q, gc2, gm2, by rw [b1, bndS]; exact if_pos rfl, b2, r⟩ u1 u2)
    · exact Or.inr ⟨s2, ρ2, nS2, nK2, nm2, ed2, ck2, gc2, gm2, by rw [b1, bndS]; exact if_neg (by decide), b2, by omega, b4, O2, C2, M2, k2.trans k18, u1.tr v1, u2.tr v2⟩
theorem lnZ2 (r : bad2 gc gm rc rm ∨ good2 tp s gc gm rc rm) : bad2 gc gm rc (lnZ rm) ∨ good2 tp s gc gm rc (lnZ rm) := by
  rcases r with ⟨k, q, gc', gm', a1, a2, r⟩ | ⟨s', ρ, nS, nK, nm, ed, ck, gc', gm', a1, a2, r⟩
  · exact Or.inl ⟨k, q, gc', gm', a1, by unfold lnZ; rw [a2, bndS]; exact if_pos (by decide), r⟩
  · exact Or.inr ⟨s', ρ, nS, nK, nm, ed, ck, gc', gm', a1, by unfold lnZ; rw [a2, bndS]; exact if_pos (by decide), r⟩
theorem c_line (B : CT1 tp 900 s h) : f_X6_readLine h = if kwT tp 900 s = 300 then lnC (f_X6_readSort h) else if kwT tp 900 s = 303 then lnC (f_X6_readMark h) else if kwT tp 900 s = 304 then lnC (f_X6_readFollow h) else if kwT tp 900 s = 305 then lnC (f_X6_readWord h) else if kwT tp 900 s = 310 then lnC (f_X6_readReads h) else if kwT tp 900 s = 314 then lnC (f_X6_readEdict h) else if kwT tp 900 s = 315 then lnC (f_X6_readClerk h) else some (0, gfF h 1 s) := by
  have rf : f_X6_refuse 1 h = some (0, gfF h 1 s) := c_refuse (k := 1) B
  have kk := kwT_kw (tp := tp) 900 s
  unfold f_X6_readLine
  rw [c_kw B, lt_s1, if_pos kk]
  by_cases k0 : kwT tp 900 s = 0
  · rw [if_pos k0, rf, bndS, if_pos (show isZ 0 = true by decide), if_neg (by omega), if_neg (by omega), if_neg (by omega), if_neg (by omega), if_neg (by omega), if_neg (by omega), if_neg (by omega)]
  · obtain ⟨i, hi, e⟩ : ∃ i, i < 16 ∧ kwT tp 900 s = 300 + i := by
      unfold isKw at kk
      simp only [Bool.or_eq_true, Bool.and_eq_true, decide_eq_true_eq] at kk
      exact ⟨kwT tp 900 s - 300, by omega, by omega⟩
    rcases (show i = 0 ∨ i = 1 ∨ i = 2 ∨ i = 3 ∨ i = 4 ∨ i = 5 ∨ i = 6 ∨ i = 7 ∨ i = 8 ∨ i = 9 ∨ i = 10 ∨ i = 11 ∨ i = 12 ∨ i = 13 ∨ i = 14 ∨ i = 15 by omega) with rfl | rfl | rfl | rfl | rfl | rfl | rfl | rfl | rfl | rfl | rfl | rfl | rfl | rfl | rfl | rfl
    · rw [e, if_neg (show ¬ 300 + 0 = 0 by decide), lt_s1, if_pos (show isKw (300 + 0) = true by decide), if_pos (show isKn (300 + 0) = true by decide), if_pos (show inb (Int32.ofNat (300 + 0 - 300)) 16 = true by decide), show swT.getD (Int32.ofNat (300 + 0 - 300)).toNatClampNeg 0 = 1 by decide, if_pos (show (1 : Int32) = 1 from rfl), if_pos (show 300 + 0 = 300 from rfl)]
      rfl
    · rw [e, if_neg (show ¬ 300 + 1 = 0 by decide), lt_s1, if_pos (show isKw (300 + 1) = true by decide), if_pos (show isKn (300 + 1) = true by decide), if_pos (show inb (Int32.ofNat (300 + 1 - 300)) 16 = true by decide), show swT.getD (Int32.ofNat (300 + 1 - 300)).toNatClampNeg 0 = 0 by decide, if_neg (show ¬ (0 : Int32) = 1 by decide), if_neg (show ¬ (0 : Int32) = 2 by decide), if_neg (show ¬ (0 : Int32) = 3 by decide), if_neg (show ¬ (0 : Int32) = 4 by decide), if_neg (show ¬ (0 : Int32) = 5 by decide), if_neg (show ¬ (0 : Int32) = 6 by decide), if_neg (show ¬ (0 : Int32) = 7 by decide), rf, bndS, if_pos (show isZ 0 = true by decide), if_neg (show ¬ 300 + 1 = 300 by decide), if_neg (show ¬ 300 + 1 = 303 by decide), if_neg (show ¬ 300 + 1 = 304 by decide), if_neg (show ¬ 300 + 1 = 305 by decide), if_neg (show ¬ 300 + 1 = 310 by decide), if_neg (show ¬ 300 + 1 = 314 by decide), if_neg (show ¬ 300 + 1 = 315 by decide)]
    · rw [e, if_neg (show ¬ 300 + 2 = 0 by decide), lt_s1, if_pos (show isKw (300 + 2) = true by decide), if_pos (show isKn (300 + 2) = true by decide), if_pos (show inb (Int32.ofNat (300 + 2 - 300)) 16 = true by decide), show swT.getD (Int32.ofNat (300 + 2 - 300)).toNatClampNeg 0 = 0 by decide, if_neg (show ¬ (0 : Int32) = 1 by decide), if_neg (show ¬ (0 : Int32) = 2 by decide), if_neg (show ¬ (0 : Int32) = 3 by decide), if_neg (show ¬ (0 : Int32) = 4 by decide), if_neg (show ¬ (0 : Int32) = 5 by decide), if_neg (show ¬ (0 : Int32) = 6 by decide), if_neg (show ¬ (0 : Int32) = 7 by decide), rf, bndS, if_pos (show isZ 0 = true by decide), if_neg (show ¬ 300 + 2 = 300 by decide), if_neg (show ¬ 300 + 2 = 303 by decide), if_neg (show ¬ 300 + 2 = 304 by decide), if_neg (show ¬ 300 + 2 = 305 by decide), if_neg (show ¬ 300 + 2 = 310 by decide), if_neg (show ¬ 300 + 2 = 314 by decide), if_neg (show ¬ 300 + 2 = 315 by decide)]
    · rw [e, if_neg (show ¬ 300 + 3 = 0 by decide), lt_s1, if_pos (show isKw (300 + 3) = true by decide), if_pos (show isKn (300 + 3) = true by decide), if_pos (show inb (Int32.ofNat (300 + 3 - 300)) 16 = true by decide), show swT.getD (Int32.ofNat (300 + 3 - 300)).toNatClampNeg 0 = 2 by decide, if_neg (show ¬ (2 : Int32) = 1 by decide), if_pos (show (2 : Int32) = 2 from rfl), if_neg (show ¬ 300 + 3 = 300 by decide), if_pos (show 300 + 3 = 303 from rfl)]
      rfl
    · rw [e, if_neg (show ¬ 300 + 4 = 0 by decide), lt_s1, if_pos (show isKw (300 + 4) = true by decide), if_pos (show isKn (300 + 4) = true by decide), if_pos (show inb (Int32.ofNat (300 + 4 - 300)) 16 = true by decide), show swT.getD (Int32.ofNat (300 + 4 - 300)).toNatClampNeg 0 = 3 by decide, if_neg (show ¬ (3 : Int32) = 1 by decide), if_neg (show ¬ (3 : Int32) = 2 by decide), if_pos (show (3 : Int32) = 3 from rfl), if_neg (show ¬ 300 + 4 = 300 by decide), if_neg (show ¬ 300 + 4 = 303 by decide), if_pos (show 300 + 4 = 304 from rfl)]
      rfl
    · rw [e, if_neg (show ¬ 300 + 5 = 0 by decide), lt_s1, if_pos (show isKw (300 + 5) = true by decide), if_pos (show isKn (300 + 5) = true by decide), if_pos (show inb (Int32.ofNat (300 + 5 - 300)) 16 = true by decide), show swT.getD (Int32.ofNat (300 + 5 - 300)).toNatClampNeg 0 = 4 by decide, if_neg (show ¬ (4 : Int32) = 1 by decide), if_neg (show ¬ (4 : Int32) = 2 by decide), if_neg (show ¬ (4 : Int32) = 3 by decide), if_pos (show (4 : Int32) = 4 from rfl), if_neg (show ¬ 300 + 5 = 300 by decide), if_neg (show ¬ 300 + 5 = 303 by decide), if_neg (show ¬ 300 + 5 = 304 by decide), if_pos (show 300 + 5 = 305 from rfl)]
      rfl
    · rw [e, if_neg (show ¬ 300 + 6 = 0 by decide), lt_s1, if_pos (show isKw (300 + 6) = true by decide), if_pos (show isKn (300 + 6) = true by decide), if_pos (show inb (Int32.ofNat (300 + 6 - 300)) 16 = true by decide), show swT.getD (Int32.ofNat (300 + 6 - 300)).toNatClampNeg 0 = 0 by decide, if_neg (show ¬ (0 : Int32) = 1 by decide), if_neg (show ¬ (0 : Int32) = 2 by decide), if_neg (show ¬ (0 : Int32) = 3 by decide), if_neg (show ¬ (0 : Int32) = 4 by decide), if_neg (show ¬ (0 : Int32) = 5 by decide), if_neg (show ¬ (0 : Int32) = 6 by decide), if_neg (show ¬ (0 : Int32) = 7 by decide), rf, bndS, if_pos (show isZ 0 = true by decide), if_neg (show ¬ 300 + 6 = 300 by decide), if_neg (show ¬ 300 + 6 = 303 by decide), if_neg (show ¬ 300 + 6 = 304 by decide), if_neg (show ¬ 300 + 6 = 305 by decide), if_neg (show ¬ 300 + 6 = 310 by decide), if_neg (show ¬ 300 + 6 = 314 by decide), if_neg (show ¬ 300 + 6 = 315 by decide)]
    · rw [e, if_neg (show ¬ 300 + 7 = 0 by decide), lt_s1, if_pos (show isKw (300 + 7) = true by decide), if_pos (show isKn (300 + 7) = true by decide), if_pos (show inb (Int32.ofNat (300 + 7 - 300)) 16 = true by decide), show swT.getD (Int32.ofNat (300 + 7 - 300)).toNatClampNeg 0 = 0 by decide, if_neg (show ¬ (0 : Int32) = 1 by decide), if_neg (show ¬ (0 : Int32) = 2 by decide), if_neg (show ¬ (0 : Int32) = 3 by decide), if_neg (show ¬ (0 : Int32) = 4 by decide), if_neg (show ¬ (0 : Int32) = 5 by decide), if_neg (show ¬ (0 : Int32) = 6 by decide), if_neg (show ¬ (0 : Int32) = 7 by decide), rf, bndS, if_pos (show isZ 0 = true by decide), if_neg (show ¬ 300 + 7 = 300 by decide), if_neg (show ¬ 300 + 7 = 303 by decide), if_neg (show ¬ 300 + 7 = 304 by decide), if_neg (show ¬ 300 + 7 = 305 by decide), if_neg (show ¬ 300 + 7 = 310 by decide), if_neg (show ¬ 300 + 7 = 314 by decide), if_neg (show ¬ 300 + 7 = 315 by decide)]
    · rw [e, if_neg (show ¬ 300 + 8 = 0 by decide), lt_s1, if_pos (show isKw (300 + 8) = true by decide), if_pos (show isKn (300 + 8) = true by decide), if_pos (show inb (Int32.ofNat (300 + 8 - 300)) 16 = true by decide), show swT.getD (Int32.ofNat (300 + 8 - 300)).toNatClampNeg 0 = 0 by decide, if_neg (show ¬ (0 : Int32) = 1 by decide), if_neg (show ¬ (0 : Int32) = 2 by decide), if_neg (show ¬ (0 : Int32) = 3 by decide), if_neg (show ¬ (0 : Int32) = 4 by decide), if_neg (show ¬ (0 : Int32) = 5 by decide), if_neg (show ¬ (0 : Int32) = 6 by decide), if_neg (show ¬ (0 : Int32) = 7 by decide), rf, bndS, if_pos (show isZ 0 = true by decide), if_neg (show ¬ 300 + 8 = 300 by decide), if_neg (show ¬ 300 + 8 = 303 by decide), if_neg (show ¬ 300 + 8 = 304 by decide), if_neg (show ¬ 300 + 8 = 305 by decide), if_neg (show ¬ 300 + 8 = 310 by decide), if_neg (show ¬ 300 + 8 = 314 by decide), if_neg (show ¬ 300 + 8 = 315 by decide)]
    · rw [e, if_neg (show ¬ 300 + 9 = 0 by decide), lt_s1, if_pos (show isKw (300 + 9) = true by decide), if_pos (show isKn (300 + 9) = true by decide), if_pos (show inb (Int32.ofNat (300 + 9 - 300)) 16 = true by decide), show swT.getD (Int32.ofNat (300 + 9 - 300)).toNatClampNeg 0 = 0 by decide, if_neg (show ¬ (0 : Int32) = 1 by decide), if_neg (show ¬ (0 : Int32) = 2 by decide), if_neg (show ¬ (0 : Int32) = 3 by decide), if_neg (show ¬ (0 : Int32) = 4 by decide), if_neg (show ¬ (0 : Int32) = 5 by decide), if_neg (show ¬ (0 : Int32) = 6 by decide), if_neg (show ¬ (0 : Int32) = 7 by decide), rf, bndS, if_pos (show isZ 0 = true by decide), if_neg (show ¬ 300 + 9 = 300 by decide), if_neg (show ¬ 300 + 9 = 303 by decide), if_neg (show ¬ 300 + 9 = 304 by decide), if_neg (show ¬ 300 + 9 = 305 by decide), if_neg (show ¬ 300 + 9 = 310 by decide), if_neg (show ¬ 300 + 9 = 314 by decide), if_neg (show ¬ 300 + 9 = 315 by decide)]
    · rw [e, if_neg (show ¬ 300 + 10 = 0 by decide), lt_s1, if_pos (show isKw (300 + 10) = true by decide), if_pos (show isKn (300 + 10) = true by decide), if_pos (show inb (Int32.ofNat (300 + 10 - 300)) 16 = true by decide), show swT.getD (Int32.ofNat (300 + 10 - 300)).toNatClampNeg 0 = 5 by decide, if_neg (show ¬ (5 : Int32) = 1 by decide), if_neg (show ¬ (5 : Int32) = 2 by decide), if_neg (show ¬ (5 : Int32) = 3 by decide), if_neg (show ¬ (5 : Int32) = 4 by decide), if_pos (show (5 : Int32) = 5 from rfl), if_neg (show ¬ 300 + 10 = 300 by decide), if_neg (show ¬ 300 + 10 = 303 by decide), if_neg (show ¬ 300 + 10 = 304 by decide), if_neg (show ¬ 300 + 10 = 305 by decide), if_pos (show 300 + 10 = 310 from rfl)]
      rfl
    · rw [e, if_neg (show ¬ 300 + 11 = 0 by decide), lt_s1, if_pos (show isKw (300 + 11) = true by decide), if_pos (show isKn (300 + 11) = true by decide), if_pos (show inb (Int32.ofNat (300 + 11 - 300)) 16 = true by decide), show swT.getD (Int32.ofNat (300 + 11 - 300)).toNatClampNeg 0 = 0 by decide, if_neg (show ¬ (0 : Int32) = 1 by decide), if_neg (show ¬ (0 : Int32) = 2 by decide), if_neg (show ¬ (0 : Int32) = 3 by decide), if_neg (show ¬ (0 : Int32) = 4 by decide), if_neg (show ¬ (0 : Int32) = 5 by decide), if_neg (show ¬ (0 : Int32) = 6 by decide), if_neg (show ¬ (0 : Int32) = 7 by decide), rf, bndS, if_pos (show isZ 0 = true by decide), if_neg (show ¬ 300 + 11 = 300 by decide), if_neg (show ¬ 300 + 11 = 303 by decide), if_neg (show ¬ 300 + 11 = 304 by decide), if_neg (show ¬ 300 + 11 = 305 by decide), if_neg (show ¬ 300 + 11 = 310 by decide), if_neg (show ¬ 300 + 11 = 314 by decide), if_neg (show ¬ 300 + 11 = 315 by decide)]
    · rw [e, if_neg (show ¬ 300 + 12 = 0 by decide), lt_s1, if_pos (show isKw (300 + 12) = true by decide), if_pos (show isKn (300 + 12) = true by decide), if_pos (show inb (Int32.ofNat (300 + 12 - 300)) 16 = true by decide), show swT.getD (Int32.ofNat (300 + 12 - 300)).toNatClampNeg 0 = 0 by decide, if_neg (show ¬ (0 : Int32) = 1 by decide), if_neg (show ¬ (0 : Int32) = 2 by decide), if_neg (show ¬ (0 : Int32) = 3 by decide), if_neg (show ¬ (0 : Int32) = 4 by decide), if_neg (show ¬ (0 : Int32) = 5 by decide), if_neg (show ¬ (0 : Int32) = 6 by decide), if_neg (show ¬ (0 : Int32) = 7 by decide), rf, bndS, if_pos (show isZ 0 = true by decide), if_neg (show ¬ 300 + 12 = 300 by decide), if_neg (show ¬ 300 + 12 = 303 by decide), if_neg (show ¬ 300 + 12 = 304 by decide), if_neg (show ¬ 300 + 12 = 305 by decide), if_neg (show ¬ 300 + 12 = 310 by decide), if_neg (show ¬ 300 + 12 = 314 by decide), if_neg (show ¬ 300 + 12 = 315 by decide)]
    · rw [e, if_neg (show ¬ 300 + 13 = 0 by decide), lt_s1, if_pos (show isKw (300 + 13) = true by decide), if_pos (show isKn (300 + 13) = true by decide), if_pos (show inb (Int32.ofNat (300 + 13 - 300)) 16 = true by decide), show swT.getD (Int32.ofNat (300 + 13 - 300)).toNatClampNeg 0 = 0 by decide, if_neg (show ¬ (0 : Int32) = 1 by decide), if_neg (show ¬ (0 : Int32) = 2 by decide), if_neg (show ¬ (0 : Int32) = 3 by decide), if_neg (show ¬ (0 : Int32) = 4 by decide), if_neg (show ¬ (0 : Int32) = 5 by decide), if_neg (show ¬ (0 : Int32) = 6 by decide), if_neg (show ¬ (0 : Int32) = 7 by decide), rf, bndS, if_pos (show isZ 0 = true by decide), if_neg (show ¬ 300 + 13 = 300 by decide), if_neg (show ¬ 300 + 13 = 303 by decide), if_neg (show ¬ 300 + 13 = 304 by decide), if_neg (show ¬ 300 + 13 = 305 by decide), if_neg (show ¬ 300 + 13 = 310 by decide), if_neg (show ¬ 300 + 13 = 314 by decide), if_neg (show ¬ 300 + 13 = 315 by decide)]
    · rw [e, if_neg (show ¬ 300 + 14 = 0 by decide), lt_s1, if_pos (show isKw (300 + 14) = true by decide), if_pos (show isKn (300 + 14) = true by decide), if_pos (show inb (Int32.ofNat (300 + 14 - 300)) 16 = true by decide), show swT.getD (Int32.ofNat (300 + 14 - 300)).toNatClampNeg 0 = 6 by decide, if_neg (show ¬ (6 : Int32) = 1 by decide), if_neg (show ¬ (6 : Int32) = 2 by decide), if_neg (show ¬ (6 : Int32) = 3 by decide), if_neg (show ¬ (6 : Int32) = 4 by decide), if_neg (show ¬ (6 : Int32) = 5 by decide), if_pos (show (6 : Int32) = 6 from rfl), if_neg (show ¬ 300 + 14 = 300 by decide), if_neg (show ¬ 300 + 14 = 303 by decide), if_neg (show ¬ 300 + 14 = 304 by decide), if_neg (show ¬ 300 + 14 = 305 by decide), if_neg (show ¬ 300 + 14 = 310 by decide), if_pos (show 300 + 14 = 314 from rfl)]
      rfl
    · rw [e, if_neg (show ¬ 300 + 15 = 0 by decide), lt_s1, if_pos (show isKw (300 + 15) = true by decide), if_pos (show isKn (300 + 15) = true by decide), if_pos (show inb (Int32.ofNat (300 + 15 - 300)) 16 = true by decide), show swT.getD (Int32.ofNat (300 + 15 - 300)).toNatClampNeg 0 = 7 by decide, if_neg (show ¬ (7 : Int32) = 1 by decide), if_neg (show ¬ (7 : Int32) = 2 by decide), if_neg (show ¬ (7 : Int32) = 3 by decide), if_neg (show ¬ (7 : Int32) = 4 by decide), if_neg (show ¬ (7 : Int32) = 5 by decide), if_neg (show ¬ (7 : Int32) = 6 by decide), if_pos (show (7 : Int32) = 7 from rfl), if_neg (show ¬ 300 + 15 = 300 by decide), if_neg (show ¬ 300 + 15 = 303 by decide), if_neg (show ¬ 300 + 15 = 304 by decide), if_neg (show ¬ 300 + 15 = 305 by decide), if_neg (show ¬ 300 + 15 = 310 by decide), if_neg (show ¬ 300 + 15 = 314 by decide), if_pos (show 300 + 15 = 315 from rfl)]
      rfl
theorem m_line (B : MT1 tp 900 s h) : f_X13_line h = if kwT tp 900 s = 300 then lnZ (f_X13_readSort h) else if kwT tp 900 s = 303 then mMark h else if kwT tp 900 s = 304 then lnZ (f_X13_readFollow h) else if kwT tp 900 s = 305 then lnZ (f_X13_readWord h) else if kwT tp 900 s = 310 then lnZ (f_X13_readReads h) else if kwT tp 900 s = 314 then lnZ (f_X13_readEdict h) else if kwT tp 900 s = 315 then lnZ (f_X13_readClerk h) else some (0, mfF h 1 s) := by
  have w0 : f_X13_isWord 1936683636 h = some (nI (decide (kwT tp 900 s = 300)).toNat, h) := mw (i := 0) (by decide) (by decide +kernel) B
  have w3 : f_X13_isWord 1835102827 h = some (nI (decide (kwT tp 900 s = 303)).toNat, h) := mw (i := 3) (by decide) (by decide +kernel) B
  have w4 : f_X13_isWord 112628746448759 h = some (nI (decide (kwT tp 900 s = 304)).toNat, h) := mw (i := 4) (by decide) (by decide +kernel) B
  have w5 : f_X13_isWord 2003792484 h = some (nI (decide (kwT tp 900 s = 305)).toNat, h) := mw (i := 5) (by decide) (by decide +kernel) B
  have w10 : f_X13_isWord 491327153267 h = some (nI (decide (kwT tp 900 s = 310)).toNat, h) := mw (i := 10) (by decide) (by decide +kernel) B
  have w14 : f_X13_isWord 435476325236 h = some (nI (decide (kwT tp 900 s = 314)).toNat, h) := mw (i := 14) (by decide) (by decide +kernel) B
  have w15 : f_X13_isWord 427020350059 h = some (nI (decide (kwT tp 900 s = 315)).toNat, h) := mw (i := 15) (by decide) (by decide +kernel) B
  have nt : ¬ nI true.toNat = 0 := by decide
  have nf : nI false.toNat = 0 := rfl
  unfold f_X13_line
  rw [w0, bndS]
  by_cases a0 : kwT tp 900 s = 300
  · rw [decide_eq_true a0, if_neg nt, if_pos a0]; rfl
  · rw [decide_eq_false a0, if_pos nf, if_neg a0, w3, bndS]
    by_cases a3 : kwT tp 900 s = 303
    · rw [decide_eq_true a3, if_neg nt, if_pos a3]; rfl
    · rw [decide_eq_false a3, if_pos nf, if_neg a3, w4, bndS]
      by_cases a4 : kwT tp 900 s = 304
      · rw [decide_eq_true a4, if_neg nt, if_pos a4]; rfl
      · rw [decide_eq_false a4, if_pos nf, if_neg a4, w5, bndS]
        by_cases a5 : kwT tp 900 s = 305
        · rw [decide_eq_true a5, if_neg nt, if_pos a5]; rfl
        · rw [decide_eq_false a5, if_pos nf, if_neg a5, w10, bndS]
          by_cases a10 : kwT tp 900 s = 310
          · rw [decide_eq_true a10, if_neg nt, if_pos a10]; rfl
          · rw [decide_eq_false a10, if_pos nf, if_neg a10, w14, bndS]
            by_cases a14 : kwT tp 900 s = 314
            · rw [decide_eq_true a14, if_neg nt, if_pos a14]; rfl
            · rw [decide_eq_false a14, if_pos nf, if_neg a14, w15, bndS]
              by_cases a15 : kwT tp 900 s = 315
              · rw [decide_eq_true a15, if_neg nt, if_pos a15]; rfl
              · rw [decide_eq_false a15, if_pos nf, if_neg a15, show f_X13_bad 1 h = some (0, mfF h 1 s) from m_badT (k := 1) B, bndS, if_pos (show isZ 0 = true by decide)]
/-- a LINE -/
theorem rd_line (hs : s ≤ 900) (O : SO tp s ρ nS nK nm ed ck) (C : SC tp s ρ nS nK nm ed ck gc) (M : SM tp s ρ nS nK nm ed ck gm) : bad2 gc gm (f_X6_readLine gc) (lnM (f_X13_line gm)) ∨ good3 tp s gc gm (f_X6_readLine gc) (lnM (f_X13_line gm)) := by
  rw [c_line C.1, m_line M.1]
  by_cases a0 : kwT tp 900 s = 300
  · rw [if_pos a0, if_pos a0]; exact ln2 (lnZ2 (rd_sort hs O C M))
  · by_cases a3 : kwT tp 900 s = 303
    · rw [if_neg a0, if_neg a0, if_pos a3, if_pos a3]; exact ln2 (rd_mark hs O C M)
    · by_cases a4 : kwT tp 900 s = 304
      · rw [if_neg a0, if_neg a0, if_neg a3, if_neg a3, if_pos a4, if_pos a4]; exact ln2 (lnZ2 (rd_follow hs O C M))
      · by_cases a5 : kwT tp 900 s = 305
        · rw [if_neg a0, if_neg a0, if_neg a3, if_neg a3, if_neg a4, if_neg a4, if_pos a5, if_pos a5]; exact ln2 (lnZ2 (rd_word hs O C M))
        · by_cases a10 : kwT tp 900 s = 310
          · rw [if_neg a0, if_neg a0, if_neg a3, if_neg a3, if_neg a4, if_neg a4, if_neg a5, if_neg a5, if_pos a10, if_pos a10]; exact ln2 (lnZ2 (rd_reads hs O C M))
          · by_cases a14 : kwT tp 900 s = 314
            · rw [if_neg a0, if_neg a0, if_neg a3, if_neg a3, if_neg a4, if_neg a4, if_neg a5, if_neg a5, if_neg a10, if_neg a10, if_pos a14, if_pos a14]; exact ln2 (lnZ2 (rd_edict hs O C M))
            · by_cases a15 : kwT tp 900 s = 315
              · rw [if_neg a0, if_neg a0, if_neg a3, if_neg a3, if_neg a4, if_neg a4, if_neg a5, if_neg a5, if_neg a10, if_neg a10, if_neg a14, if_neg a14, if_pos a15, if_pos a15]; exact ln2 (lnZ2 (rd_clerk hs O C M))
              · rw [if_neg a0, if_neg a0, if_neg a3, if_neg a3, if_neg a4, if_neg a4, if_neg a5, if_neg a5, if_neg a10, if_neg a10, if_neg a14, if_neg a14, if_neg a15, if_neg a15]
                unfold lnM
                rw [bndS, if_pos (show (0 : Int32) = 0 from rfl)]
                exact Or.inl (bad_here O.s1000 (by omega))
/-! the loop -/
def tgC (self : Int32 → Hp → Option (Int32 × Hp)) : Int32 → Hp → Option (Int32 × Hp) := F_X6_readTongue_25 142 (fun h10 => some ((-1) - (h10.1 4 5), h10)) (fun v12 h11 => B_X6_readTongue_62 142 v12 h11) self
def tgM (k83 : Hp → Option (Int32 × Hp)) (self : Hp → Option (Int32 × Hp)) : Hp → Option (Int32 × Hp) := F_X13_tongue_40 (fun h17 => some ((-1) - (h17.1 155 15), h17)) k83 self
/-- how both loops end -/
def tgE (tp : List Nat) (k83 : Hp → Option (Int32 × Hp)) (gc gm : Hp) (rc rm : Option (Int32 × Hp)) : Prop := (∃ k q gc' gm', rc = some ((-1) - nI q, gc') ∧ rm = some ((-1) - nI q, gm') ∧ 1 ≤ k ∧ k ≤ 4 ∧ q ≤ 1000 ∧ gc'.1 4 4 = nI k ∧ gm'.1 155 14 = nI k ∧ Same unC gc gc' ∧ unM gm gm') ∨ ∃ x s ρ nS nK nm ed ck gc' gm', rc = (bnv (f_X10_settle 142 gc') fun h16 => some (nI x, h16)) ∧ rm = k83 gm' ∧ x ≤ 900 ∧ SO tp s ρ nS nK nm ed ck ∧ SC tp s ρ nS nK nm ed ck gc' ∧ SM tp s ρ nS nK nm ed ck gm' ∧ gm'.1 155 18 = nI x ∧ Same unC gc gc' ∧ unM gm gm'
theorem tgE.tr {k83 : Hp → Option (Int32 × Hp)} {gc2 gm2 : Hp} (r : tgE tp k83 gc2 gm2 rc rm) (u1 : Same unC gc gc2) (u2 : unM gm gm2) : tgE tp k83 gc gm rc rm := by
  rcases r with ⟨k, q, gc', gm', a1, a2, a3, a4, a5, a6, a7, a8, a9⟩ | ⟨x, s, ρ, nS, nK, nm, ed, ck, gc', gm', a1, a2, a3, a4, a5, a6, a7, a8, a9⟩
  · exact Or.inl ⟨k, q, gc', gm', a1, a2, a3, a4, a5, a6, a7, u1.tr a8, u2.tr a9⟩
  · exact Or.inr ⟨x, s, ρ, nS, nK, nm, ed, ck, gc', gm', a1, a2, a3, a4, a5, a6, a7, u1.tr a8, u2.tr a9⟩
theorem c_tooLong (B : CT1 tp 900 s h) (T : Tp tp) : f_X9_isTooLong h = some (if tp.length ≤ 900 then 0 else 1, h) := by
  obtain ⟨⟨b1, b2, b3, b4, b5⟩, -⟩ := B
  have := T.1
  unfold f_X9_isTooLong
  rw [b1, lt_s1, if_pos (show isO 5 2 = true by decide), b2, b4]
  by_cases z : tp.length ≤ 900
  · rw [if_pos z, if_pos (nI_le z (by omega))]
  · rw [if_neg z, if_neg (nI_ge (by omega) (by omega))]
theorem fbC {g : Hp} {q : Nat} (e : g.1 4 5 = nI q) : some ((-1 : Int32) - (g.1 4 5), g) = some ((-1) - nI q, g) := by rw [e]
theorem fbM {g : Hp} {q : Nat} (e : g.1 155 15 = nI q) : some ((-1 : Int32) - (g.1 155 15), g) = some ((-1) - nI q, g) := by rw [e]
theorem tg_step {k83 : Hp → Option (Int32 × Hp)} {x : Nat} (sC : Int32 → Hp → Option (Int32 × Hp)) (sM : Hp → Option (Int32 × Hp)) (hs : s ≤ 900) (hx : x ≤ s) (O : SO tp s ρ nS nK nm ed ck) (C : SC tp s ρ nS nK nm ed ck gc) (M : SM tp s ρ nS nK nm ed ck gm) (h18 : gm.1 155 18 = nI x) (IH : ∀ s' ρ' nS' nK' nm' ed' ck' gc' gm', s < s' → s' ≤ 900 → SO tp s' ρ' nS' nK' nm' ed' ck' → SC tp s' ρ' nS' nK' nm' ed' ck' gc' → SM tp s' ρ' nS' nK' nm' ed' ck' gm' → gm'.1 155 18 = nI (x + 1) → tgE tp k83 gc' gm' (sC (nI (x + 1)) gc') (sM gm')) : tgE tp k83 gc gm (tgC sC (nI x) gc) (tgM k83 sM gm) := by
  have T := O.1
  have ql := tkQ_lt (tp := tp) 900 s
  have rl := tkR_lt (tp := tp) 900 s
  have sl := O.2.2.1
  unfold tgC tgM F_X6_readTongue_25 F_X13_tongue_40
  rw [C.1.2.1, M.1.2.1]
  by_cases q0 : s < min tp.length 900
  · -- a token
    have x9 : ¬ (900 : Int32) ≤ nI x := nI_ge (b := 900) (a := x) (by omega) (by omega)
    have e1 : tkQ tp 900 s = tkK tp s := if_pos q0
    have e2 : tkR tp 900 s = tkK tp s := if_pos q0
    have kp : 0 < tkK tp s := tkK_pos s
    rw [if_neg x9, if_neg (show ¬ nI (tkQ tp 900 s) = 0 from fun z => by have := (nI_eq (b := 0) (by omega) (by omega)).mp z; omega), if_neg (show ¬ nI (tkR tp 900 s) = 0 from fun z => by have := (nI_eq (b := 0) (by omega) (by omega)).mp z; omega)]
    have r := rd_line hs O C M
    unfold lnM at r
    obtain ⟨ml, hml⟩ : ∃ ml, ml = f_X13_line gm := ⟨_, rfl⟩
    rw [← hml] at r ⊢
    -- the reference's LINE has an end
    cases ml with
    | none =>
      rcases r with ⟨k, q, gc', gm', a1, a2, r⟩ | ⟨s', ρ', nS', nK', nm', ed', ck', gc', gm', a1, a2, r⟩
      · exact absurd a2 (by intro z; cases z)
      · exact absurd a2 (by intro z; cases z)
    | some p =>
      obtain ⟨v, g⟩ := p
      rw [bndS] at r ⊢
      by_cases v0 : v = 0
      · rw [if_pos v0] at r ⊢
        rcases r with ⟨k, q, gc', gm', a1, a2, a3, a4, a5, a6, a7, a8, a9, u1, u2⟩ | ⟨s', ρ', nS', nK', nm', ed', ck', gc', gm', a1, a2, r⟩
        · have eg : g = gm' := by injection a2 with z; injection z
          rw [a1, bndS, if_pos (show (0 : Int32) = 0 from rfl), eg]
          exact Or.inl ⟨k, q, gc', gm', fbC a7, fbM a9, a3, a4, a5, a6, a8, u1, u2⟩
        · injection a2 with z
          injection z with z1 z2
          exact absurd z1 (by decide)
      · rw [if_neg v0] at r ⊢
        rcases r with ⟨k, q, gc', gm', a1, a2, a3, a4, a5, a6, a7, a8, a9, u1, u2⟩ | ⟨s', ρ', nS', nK', nm', ed', ck', gc', gm', a1, a2, a3, a4, O2, C2, M2, k18, u1, u2⟩
        · rw [a1, a2, bndS, bndS, if_pos (show (0 : Int32) = 0 from rfl), if_pos (show (0 : Int32) = 0 from rfl)]
          exact Or.inl ⟨k, q, gc', gm', fbC a7, fbM a9, a3, a4, a5, a6, a8, u1, u2⟩
        · rw [a1, a2, bndS, bndS, if_neg (show ¬ (1 : Int32) = 0 by decide), if_neg (show ¬ (1 : Int32) = 0 by decide), nI_1, k18, h18, nI_1, lt_s1]
          have M3 : SM tp s' ρ' nS' nK' nm' ed' ck' (sI gm' 155 18 (nI (x + 1))) := M2.put (by decide)
          exact (IH s' ρ' nS' nK' nm' ed' ck' gc' (sI gm' 155 18 (nI (x + 1))) a3 a4 O2 C2 M3 sI_s).tr u1 (u2.tr (unM.ofI155 (by decide)))
  · -- the end
    have e1 : tkQ tp 900 s = 0 := if_neg q0
    have e2 : tkR tp 900 s = if tp.length ≤ 900 then 0 else 4 := if_neg q0
    have kc : (if (900 : Int32) ≤ nI x then B_X6_readTongue_62 142 (nI x) gc else if nI (tkQ tp 900 s) = 0 then B_X6_readTongue_62 142 (nI x) gc else bnd (f_X6_readLine gc) fun v8 h7 => (if v8 = 0 then some ((-1) - (h7.1 4 5), h7) else sC (nI x + 1) h7)) = B_X6_readTongue_62 142 (nI x) gc := by
      rw [if_pos (show nI (tkQ tp 900 s) = 0 by rw [e1]; rfl), ite_self]
    show tgE tp k83 gc gm (if (900 : Int32) ≤ nI x then B_X6_readTongue_62 142 (nI x) gc else if nI (tkQ tp 900 s) = 0 then B_X6_readTongue_62 142 (nI x) gc else bnd (f_X6_readLine gc) fun v8 h7 => (if v8 = 0 then some ((-1) - (h7.1 4 5), h7) else sC (nI x + 1) h7)) _
    rw [kc]
    unfold B_X6_readTongue_62
    rw [c_tooLong C.1 T, bndS]
    by_cases z : tp.length ≤ 900
    · rw [if_pos z] at e2 ⊢
      rw [if_pos (show (0 : Int32) = 0 from rfl), if_pos (show nI (tkR tp 900 s) = 0 by rw [e2]; rfl)]
      exact Or.inr ⟨x, s, ρ, nS, nK, nm, ed, ck, gc, gm, rfl, rfl, by omega, O, C, M, h18, Same.rf, unM.rf⟩
    · rw [if_neg z] at e2 ⊢
      have k0 : kwT tp 900 s = 0 := by unfold kwT; rw [e1]; exact if_neg (by decide)
      have ml : f_X13_line gm = some (0, mfF gm 1 s) := by
        rw [m_line M.1, if_neg (by omega), if_neg (by omega), if_neg (by omega), if_neg (by omega), if_neg (by omega), if_neg (by omega), if_neg (by omega)]
      rw [if_neg (show ¬ (1 : Int32) = 0 by decide), if_neg (show ¬ nI (tkR tp 900 s) = 0 by rw [e2]; decide), ml, bndS, if_pos (show (0 : Int32) = 0 from rfl), show f_X6_refuse 1 gc = some (0, gfF gc 1 s) from c_refuse (k := 1) C.1, bndS]
      have s1000 := O.s1000
      exact Or.inl ⟨1, s, gfF gc 1 s, mfF gm 1 s, fbC (gfF_5 _ _ _), fbM (mfF_15 _ _ _), by omega, by omega, by omega, gfF_4 _ _ _, mfF_14 _ _ _, gfF_U _ _ _, unM.fault⟩
theorem tg_loop (k83 : Hp → Option (Int32 × Hp)) : ∀ d s x ρ nS nK nm ed ck gc gm fC fM, 900 ≤ s + d → d < fC → d < fM → s ≤ 900 → x ≤ s → SO tp s ρ nS nK nm ed ck → SC tp s ρ nS nK nm ed ck gc → SM tp s ρ nS nK nm ed ck gm → gm.1 155 18 = nI x → tgE tp k83 gc gm (itr2 tgC fC (nI x) gc) (itr1 (tgM k83) fM gm) := by
  intro d
  induction d with
  | zero =>
    intro s x ρ nS nK nm ed ck gc gm fC fM hd h1 h2 hs hx O C M h18
    obtain ⟨fC, rfl⟩ : ∃ q, fC = q + 1 := ⟨fC - 1, by omega⟩
    obtain ⟨fM, rfl⟩ : ∃ q, fM = q + 1 := ⟨fM - 1, by omega⟩
    rw [itr2_s, itr1_s]
    exact tg_step _ _ hs hx O C M h18 (fun _ _ _ _ _ _ _ _ _ q1 q2 => by omega)
  | succ d ih =>
    intro s x ρ nS nK nm ed ck gc gm fC fM hd h1 h2 hs hx O C M h18
    obtain ⟨fC, rfl⟩ : ∃ q, fC = q + 1 := ⟨fC - 1, by omega⟩
    obtain ⟨fM, rfl⟩ : ∃ q, fM = q + 1 := ⟨fM - 1, by omega⟩
    rw [itr2_s, itr1_s]
    exact tg_step _ _ hs hx O C M h18 (fun s' ρ' nS' nK' nm' ed' ck' gc' gm' q1 q2 q3 q4 q5 q6 => ih s' (x + 1) ρ' nS' nK' nm' ed' ck' gc' gm' fC fM (by omega) (by omega) (by omega) q2 (by omega) q3 q4 q5 q6)
end UNGV
