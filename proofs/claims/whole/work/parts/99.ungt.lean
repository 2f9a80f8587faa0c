section UNGT
variable {tp : List Nat} {ρ ρ' σ : Nat → Nat} {nS nK nm N nS' nK' nm' : Nat → List Nat} {h h' gc gc1 gm : Hp} {s ed ck : Nat} {rc rm : Option (Int32 × Hp)}
/-- is it a change -/
def chT (tp : List Nat) (s : Nat) : Bool := decide (kwT tp 900 s = 311) || (decide (kwT tp 900 s = 312) || decide (kwT tp 900 s = 313))
def chW (tp : List Nat) (s : Nat) : Nat := if kwT tp 900 s = 311 then 0 else if kwT tp 900 s = 312 then 1 else 2
theorem c_isCh (B : CT1 tp 900 s h) : f_X6_isChange h = some (nI (chT tp s).toNat, h) := by
  unfold f_X6_isChange chT
  rw [c_kw B, lt_s1, if_pos (kwT_kw 900 s)]
  by_cases a : kwT tp 900 s = 311
  · rw [if_pos a, decide_eq_true a]; rfl
  · by_cases b : kwT tp 900 s = 312
    · rw [if_neg a, if_pos b, decide_eq_false a, decide_eq_true b]; rfl
    · by_cases c : kwT tp 900 s = 313
      · rw [if_neg a, if_neg b, if_pos c, decide_eq_false a, decide_eq_false b, decide_eq_true c]; rfl
      · rw [if_neg a, if_neg b, if_neg c, decide_eq_false a, decide_eq_false b, decide_eq_false c]; rfl
theorem c_ch1 {w q : Int32} {i : Nat} (hi : i ≤ 6) (B : CT1 tp 900 s h) (k113 k121 : Hp → Option (Int32 × Hp)) (self : Int32 → Hp → Option (Int32 × Hp)) : F_X6_readReads_91 w q k113 k121 self (nI i) h = if i = 6 then k121 h else if chT tp s = false then k121 h else bnd (f_X6_readChange w q h) fun v27 h26 => (if v27 = 0 then k113 h26 else self (nI (i + 1)) h26) := by
  unfold F_X6_readReads_91
  by_cases i6 : i = 6
  · rw [if_pos i6, if_pos (show (6 : Int32) ≤ nI i by rw [i6]; decide)]
  · rw [if_neg i6, if_neg (show ¬ (6 : Int32) ≤ nI i from nI_ge (b := 6) (a := i) (by omega) (by omega)), c_isCh B, bndS, nI_1]
    cases hc : chT tp s
    · rw [if_pos (show nI false.toNat = 0 from rfl), if_pos rfl]
    · rw [if_neg (show ¬ nI true.toNat = 0 by decide), if_neg (show ¬ true = false by decide)]
theorem m_ch1 {x3 : Int32} {i : Nat} (hi : i ≤ 6) (B : MT1 tp 900 s h) (k176 k232 k328 : Hp → Option (Int32 × Hp)) (self : Int32 → Hp → Option (Int32 × Hp)) : F_X13_readReads_139 x3 k176 k232 k328 self (nI i) h = if chT tp s = false then k328 h else if i = 6 then k176 h else B_X13_readReads_211 x3 k176 k232 k328 self (nI i) (nI (chW tp s)) h := by
  have w1 : f_X13_isWord 1936028787 h = some (nI (decide (kwT tp 900 s = 311)).toNat, h) := mw (i := 11) (by decide) (by decide +kernel) B
  have w2 : f_X13_isWord 109317208502899 h = some (nI (decide (kwT tp 900 s = 312)).toNat, h) := mw (i := 12) (by decide) (by decide +kernel) B
  have w3 : f_X13_isWord 500186639987 h = some (nI (decide (kwT tp 900 s = 313)).toNat, h) := mw (i := 13) (by decide) (by decide +kernel) B
  have nt : ¬ nI true.toNat = 0 := by decide
  have nf : nI false.toNat = 0 := rfl
  have nb : ¬ true = false := by decide
  have i6 : (nI i = 6) = (i = 6) := propext (nI_eq (b := 6) (by omega) (by omega))
  have st : B_X13_readReads_169 x3 k176 k232 k328 self (nI i) h = if i = 6 then k176 h else B_X13_readReads_211 x3 k176 k232 k328 self (nI i) (nI (chW tp s)) h := by
    unfold B_X13_readReads_169 chW
    by_cases z : i = 6
    · rw [if_pos z, if_pos (by rw [i6]; exact z)]
    · rw [if_neg z, if_neg (by rw [i6]; exact z), w1, bndS]
      by_cases a : kwT tp 900 s = 311
      · rw [decide_eq_true a, if_neg nt, if_pos a]; rfl
      · rw [decide_eq_false a, if_pos nf, if_neg a, w2, bndS]
        by_cases b : kwT tp 900 s = 312
        · rw [decide_eq_true b, if_neg nt, if_pos b]; rfl
        · rw [decide_eq_false b, if_pos nf, if_neg b]; rfl
  unfold F_X13_readReads_139 chT
  rw [w1, bndS]
  by_cases a : kwT tp 900 s = 311
  · rw [decide_eq_true a, if_neg nt, st, Bool.true_or, if_neg nb]
  · rw [decide_eq_false a, if_pos nf, w2, bndS, Bool.false_or]
    by_cases b : kwT tp 900 s = 312
    · rw [decide_eq_true b, if_neg nt, st, Bool.true_or, if_neg nb]
    · rw [decide_eq_false b, if_pos nf, w3, bndS, Bool.false_or]
      by_cases c : kwT tp 900 s = 313
      · rw [decide_eq_true c, if_neg nt, st, if_neg nb]
      · rw [decide_eq_false c, if_pos nf, if_pos rfl]
theorem ch_v0 : ∀ m, m < 3 → ∀ v, v < 8 → (v &&& (7 - 2 ^ m)) ^^^ 2 ^ m = v ||| 2 ^ m := by decide
theorem ch_v1 : ∀ m, m < 3 → ∀ v, v < 8 → (v &&& (7 - 2 ^ m)) ^^^ 0 = v &&& (7 - 2 ^ m) := by decide
theorem ch_v2 : ∀ m, m < 3 → ∀ v, v < 8 → (v &&& 7) ^^^ 2 ^ m = v ^^^ 2 ^ m := by decide
theorem wrH_cong {c b : Nat} {f g : Nat → Nat} : ∀ n, (∀ i, i < n → f i = g i) → wrH h c b f n = wrH h c b g n
  | 0, _ => rfl
  | n + 1, hf => by
    show sI (wrH h c b f n) c (b + n) (nI (f n)) = sI (wrH h c b g n) c (b + n) (nI (g n))
    rw [wrH_cong n (fun i hi => hf i (by omega)), hf n (by omega)]
/-- a change, for both -/
theorem ch2 {w q i : Nat} (k176 k328 : Hp → Option (Int32 × Hp)) (self : Int32 → Hp → Option (Int32 × Hp)) (hs : s ≤ 900) (hi : i < 6) (hw : w < ρ 2) (hq : q < ρ 0) (h1 : ρ (72 + 5 * w + q) = 1) (ht : chT tp s = true) (O : SO tp s ρ nS nK nm ed ck) (C : SC tp s ρ nS nK nm ed ck gc) (M : SM tp s ρ nS nK nm ed ck gm) : bad2 gc gm (f_X6_readChange (nI w) (nI q) gc) (B_X13_readReads_211 (nI (112 + 8 * (5 * w + q))) k176 (fun h59 => some (0, h59)) k328 self (nI i) (nI (chW tp s)) gm) ∨ ∃ s' ρ' gc' gm', f_X6_readChange (nI w) (nI q) gc = some (1, gc') ∧ B_X13_readReads_211 (nI (112 + 8 * (5 * w + q))) k176 (fun h59 => some (0, h59)) k328 self (nI i) (nI (chW tp s)) gm = self (nI (i + 1)) gm' ∧ s ≤ s' ∧ s' ≤ 900 ∧ SO tp s' ρ' nS nK nm ed ck ∧ SC tp s' ρ' nS nK nm ed ck gc' ∧ SM tp s' ρ' nS nK nm ed ck gm' ∧ (w < ρ' 2 ∧ q < ρ' 0 ∧ ρ' (72 + 5 * w + q) = 1) ∧ gm'.1 155 18 = gm.1 155 18 ∧ Same unC gc gc' ∧ unM gm gm' := by
  have T := O.1
  have H := O.2.1.1
  have okK := O.2.1.2.2
  obtain ⟨h5, h3, h8, -⟩ := H.1
  have i8 : isO 8 142 = true := by decide
  have z0 : (0 : Int32) = 0 := rfl
  obtain ⟨gc1, gm1, a1, b1, O1, C1, M1, a2, b2, b3⟩ := both_nx O C M
  have g1 := tkB_ge (tp := tp) (L := 900) (s := s) (by have := O.2.2.1; omega)
  obtain ⟨s1, hs1⟩ : ∃ s1, s1 = tkB tp 900 (tkX tp 900 s) := ⟨_, rfl⟩
  rw [← hs1] at C1 M1 O1 g1
  have s19 : s1 ≤ 900 := by rw [hs1]; exact (tkB_le tp 900 _).2
  unfold f_X6_readChange B_X13_readReads_211
  rw [c_kw C.1, lt_s1, if_pos (kwT_kw 900 s), a1, b1, bnvS, bnvS, C1.2.2.1, lt_s1, if_pos i8, C1.2.1.1.2.1, show f_X6_toldHere 5 (nI (ρ 1)) gc1 = _ from c_told (base := 5) (n := ρ 1) (f := nK) (t := 142) i8 C1.2.1.2.1.2.1 okK (by omega) C1.2.2.1 C1.1, show (1 : Int32).toNatClampNeg = 1 from rfl, M1.2.1.1 1 (by omega), show f_X13_takesName 21 (nI (ρ 1)) gm1 = _ from m_takesName (base := 21) M1.2.1.2.2.1 okK (by omega) M1.2.2.1 M1.1]
  cases hn : isNm tp 900 s1
  · rw [if_pos rfl, if_pos rfl, bndS, bndS, if_neg (show ¬ (0 : Int32) ≤ -1 by decide), if_pos z0]
    exact Or.inl ((bad_here O1.s1000 (by omega)).tr a2 b2)
  · rw [if_neg (show ¬ true = false by decide), if_neg (show ¬ true = false by decide)]
    by_cases hi' : ixN nK (ρ 1) (nmT tp s1) < ρ 1
    · rw [if_pos hi', if_pos hi']
      obtain ⟨m, hm⟩ : ∃ m, m = ixN nK (ρ 1) (nmT tp s1) := ⟨_, rfl⟩
      rw [← hm] at hi' ⊢
      have hh : chW tp s < 3 := by
        unfold chW
        by_cases x : kwT tp 900 s = 311
        · rw [if_pos x]; omega
        · rw [if_neg x]
          by_cases y : kwT tp 900 s = 312
          · rw [if_pos y]; omega
          · rw [if_neg y]; omega
      -- the class
      have v8 : ∀ i, i < 8 → ρ (112 + 8 * (5 * w + q) + i) < 8 := fun i hi => by
        have := H.2.2.2.2.2.2.1 (8 * (5 * w + q) + i) (by omega)
        rw [show 112 + 8 * (5 * w + q) + i = 112 + (8 * (5 * w + q) + i) by omega]; exact this
      have R1 : ∀ i, i < 8 → gc1.1 151 (8 * (5 * w + q) + i) = nI (ρ (112 + 8 * (5 * w + q) + i)) := fun i hi => by
        have := C1.2.1.2.2.2.2.2.2 (8 * (5 * w + q) + i) (by omega)
        unfold mk at this
        rw [show (8 * (5 * w + q) + i) / 8 = 5 * w + q by omega, show 72 + (5 * w + q) = 72 + 5 * w + q by omega, h1, if_pos rfl, show 112 + (8 * (5 * w + q) + i) = 112 + 8 * (5 * w + q) + i by omega] at this
        exact this
      obtain ⟨gx, hgx⟩ : ∃ gx, gx = wrH gc1 151 (8 * (5 * w + q)) (fun i => chF (chW tp s) m (ρ (112 + 8 * (5 * w + q) + i))) 8 := ⟨_, rfl⟩
      have Sx : Same [151] gc1 gx := by rw [hgx]; exact wrH_S 8
      have Cx : SC tp s1 (chS ρ w q (chW tp s) m) nS nK nm ed ck gx := by rw [hgx]; exact C1.of (wrH_S 8) (by decide) (C1.2.1.ch (by omega) (by omega) h1 h8)
      obtain ⟨gc2, a3, a4, C2⟩ := Cx.adv5 T O1.2.2.1
      have cc : ∀ kp st, (∀ i, i < 8 → (ρ (112 + 8 * (5 * w + q) + i) &&& kp) ^^^ st = chF (chW tp s) m (ρ (112 + 8 * (5 * w + q) + i))) → B_X6_readChange_82 (nI st) (nI kp) (nI q) (nI w) 142 gc1 = some (1, gc2) := fun kp st hv => by
        unfold B_X6_readChange_82
        rw [c_change (by omega) (by omega) R1, bnvS, wrH_cong 8 hv, ← hgx, a3, bnvS]
      have pm : 2 ^ m ≤ 7 := by
        have : 2 ^ m ≤ 2 ^ 2 := Nat.pow_le_pow_right (by decide) (by omega)
        omega
      have cE : (if kwT tp 900 s = 313 then B_X6_readChange_59 (nI w) (nI q) (kwT tp 900 s) (nI (2 ^ m)) 7 gc1 else B_X6_readChange_59 (nI w) (nI q) (kwT tp 900 s) (nI (2 ^ m)) (7 - nI (2 ^ m)) gc1) = some (1, gc2) := by
        unfold B_X6_readChange_59
        rw [C1.2.2.1, lt_s1, if_pos i8, lt_s1, if_pos i8, li_7, subN pm, li_0]
        by_cases x : kwT tp 900 s = 311
        · rw [if_neg (by omega), if_neg (by omega)]
          exact cc _ _ (fun i hi => by unfold chF chW; rw [if_pos x, if_pos rfl]; exact ch_v0 m (by omega) _ (v8 i hi))
        · by_cases y : kwT tp 900 s = 312
          · rw [if_neg (by omega), if_pos y]
            exact cc _ _ (fun i hi => by unfold chF chW; rw [if_neg x, if_pos y, if_neg (by decide), if_pos rfl]; exact ch_v1 m (by omega) _ (v8 i hi))
          · have z : kwT tp 900 s = 313 := by
              unfold chT at ht
              rw [decide_eq_false x, decide_eq_false y, Bool.false_or, Bool.false_or] at ht
              exact of_decide_eq_true ht
            rw [if_pos z, if_neg y]
            exact cc _ _ (fun i hi => by unfold chF chW; rw [if_neg x, if_neg y, if_neg (by decide), if_neg (by decide)]; exact ch_v2 m (by omega) _ (v8 i hi))
      -- the reference
      obtain ⟨gm2, b4, b5, b6, M2⟩ := (M1.put (k := 17) (v := nI m) (by decide)).nx5 T
      have t17 : gm2.1 155 17 = nI m := by rw [b6.1 17 (by decide)]; exact sI_s
      have O2 := tkB_ok T O1
      have g2 := tkB_ge (tp := tp) (L := 900) (s := s1) (by have := O1.2.2.1; omega)
      obtain ⟨s2, hs2⟩ : ∃ s2, s2 = tkB tp 900 (tkX tp 900 s1) := ⟨_, rfl⟩
      rw [← hs2] at C2 M2 O2 g2
      have s29 : s2 ≤ 900 := by rw [hs2]; exact (tkB_le tp 900 _).2
      have Mx : SM tp s2 (chS ρ w q (chW tp s) m) nS nK nm ed ck (wrH gm2 158 (112 + 8 * (5 * w + q)) (fun i => chF (chW tp s) m (ρ (112 + 8 * (5 * w + q) + i))) 8) := M2.of (wrH_S 8) (by decide) (M2.2.1.ch (by omega) (by omega))
      have U2 : unM gm gm2 := b2.tr ((unM.ofI155 (k := 17) (by decide)).tr (unM.ofF b5 b6))
      have k18 : gm2.1 155 18 = gm.1 155 18 := by rw [b6.1 18 (by decide), sI_nk1 (by decide)]; exact b3 18 (by decide)
      rw [bndS, if_pos (ix_ge hi' (by omega)), b4, bnvS, bndS, if_neg (show ¬ (1 : Int32) = 0 by decide), t17, li_1, shl1 (by omega), lt_s1, lt_s1, li_0, ← li_0, m_change (by omega) hh (by omega) (fun i hi => M2.2.1.1 _ (by omega)) v8]
      refine Or.inr ⟨s2, chS ρ w q (chW tp s) m, gc2, _, cE, ?_, by omega, s29, ⟨T, O.2.1.ch (by omega) (by omega) hh (by omega), O2.2.2⟩, C2, Mx, ⟨?_, ?_, ?_⟩, ?_, ?_, ?_⟩
      · show self (nI i + nI 1) _ = _
        rw [nI_add]
      · rw [chS_o (by omega)]; exact hw
      · rw [chS_o (by omega)]; exact hq
      · rw [chS_o (by omega)]; exact h1
      · rw [(wrH_S 8 155 (by decide)).1]; exact k18
      · exact a2.tr ((Sx.mono (fun a h1 => by simp only [List.mem_cons, List.not_mem_nil, or_false] at h1; subst h1; decide)).tr (unC5 a4))
      · exact U2.tr (wrH_158 8)
    · rw [if_neg hi', if_neg hi', bndS, bndS, if_neg (show ¬ (0 : Int32) ≤ -1 by decide), if_pos z0]
      exact Or.inl (((bad_here O1.s1000 (by omega)).tr Same.rf (unM.ofI155 (k := 17) (by decide))).tr a2 b2)
end UNGT
