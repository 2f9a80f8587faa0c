section UNGW
variable {tp : List Nat} {ρ ρ' σ : Nat → Nat} {nS nK nm N nS' nK' nm' : Nat → List Nat} {h h' gc gc1 gm : Hp} {s ed ck : Nat} {rc rm : Option (Int32 × Hp)}
/-! an empty TONGUE -/
def plT : Nat → Nat := fun j => if j = 3 then 3 else if j = 4 then 1 else if 432 ≤ j ∧ j < 437 then 1 else 0
theorem plT_0 {j : Nat} (h1 : j ≠ 3) (h2 : j ≠ 4) (h3 : j < 432) : plT j = 0 := by
  unfold plT
  rw [if_neg h1, if_neg h2, if_neg (by omega)]
theorem plT_c {b : Nat} (h1 : 1 ≤ b) (h2 : b ≤ 5) : plT (431 + b) = 1 := by
  unfold plT
  rw [if_neg (by omega), if_neg (by omega), if_pos (by omega)]
theorem plT_ok (nS nK nm : Nat → List Nat) : RgOk plT nS nK nm := by
  refine ⟨⟨⟨by decide, by decide, by decide, by decide, by decide, by decide, by decide⟩, fun k k1 k2 => ?_, fun k k1 k2 => ?_, fun w hw => ?_, fun k k1 k2 => ?_, fun w w1 w2 => ?_, fun i hi => ?_, fun k k1 k2 => ?_⟩, fun i hi => ?_, fun i hi => ?_⟩
  · rw [plT_0 (by omega) (by omega) (by omega)]; omega
  · exact ⟨plT_0 (by omega) (by omega) (by omega), plT_0 (by omega) (by omega) (by omega), fun o ho => ⟨plT_0 (by omega) (by omega) (by omega), plT_0 (by omega) (by omega) (by omega)⟩, fun w hw => plT_0 (by omega) (by omega) (by omega)⟩
  · exact absurd hw (by rw [plT_0 (by omega) (by omega) (by omega)]; omega)
  · rw [plT_0 (by omega) (by omega) (by omega)]; omega
  · exact ⟨plT_0 (by omega) (by omega) (by omega), fun k hk => plT_0 (by omega) (by omega) (by omega)⟩
  · rw [plT_0 (by omega) (by omega) (by omega)]; omega
  · rw [plT_c k1 k2]; omega
  · exact absurd hi (by rw [plT_0 (by omega) (by omega) (by omega)]; omega)
  · exact absurd hi (by rw [plT_0 (by omega) (by omega) (by omega)]; omega)
theorem c_fillW {a c : Nat} {v : Int32} (hv : v = nI c) (ha : aln a ≤ 1000) : f_J7_fill_53178 a v h = some (wrH h a 0 (fun _ => c) (aln a)) := by
  unfold f_J7_fill_53178
  rw [lt_s1, hv]
  refine sq2 (aln a) (fun i => nI i) (fun i => wrH h a 0 (fun _ => c) i) (fun self => ?_) (fun self i hi => ?_) (by omega) rfl rfl
  · unfold F_J7_fill_53178_5
    exact if_pos (nI_le (Nat.le_refl _) (by omega))
  · unfold F_J7_fill_53178_5
    rw [if_neg (show ¬ Int32.ofNat (aln a) ≤ nI i from nI_ge hi (by omega)), if_pos (inb_nI hi (by omega)), lt_s1, clp (by omega), nI_1]
    show self _ (sI (wrH h a 0 (fun _ => c) i) a i (nI c)) = self _ (sI (wrH h a 0 (fun _ => c) i) a (0 + i) (nI c))
    rw [Nat.zero_add]
theorem c_clear60 : itr2 (F_X10_clear_60 142 (fun h13 => some h13)) N0 0 h = some (wrH h 151 0 (fun i => i % 8) 320) := by
  refine sq2 320 (fun i => nI i) (fun i => wrH h 151 0 (fun i => i % 8) i) (fun self => ?_) (fun self i hi => ?_) (by omega) rfl rfl
  · unfold F_X10_clear_60
    exact if_pos (by decide)
  · unfold F_X10_clear_60
    rw [if_neg (show ¬ (320 : Int32) ≤ nI i from nI_ge (b := 320) (a := i) hi (by omega)), if_pos (inb_nI hi (by omega)), lt_s1, clp (by omega), nI_1, li_8, remN (by omega) (by omega) (by omega)]
    show self _ (sI (wrH h 151 0 (fun i => i % 8) i) 151 i (nI (i % 8))) = self _ (sI (wrH h 151 0 (fun i => i % 8) i) 151 (0 + i) (nI (i % 8)))
    rw [Nat.zero_add]
theorem c_clear : ∃ h', f_X10_clear 142 h = some h' ∧ Same [142, 144, 145, 146, 150, 151] h h' ∧ ∀ nS nK nm, RgC h' 142 plT nS nK nm := by
  obtain ⟨g2, hg2⟩ : ∃ g2, g2 = sI (sI (sI (sI (sI h 142 0 (nI 0)) 142 1 (nI 0)) 142 2 (nI 0)) 144 0 (nI 3)) 144 1 (nI 1) := ⟨_, rfl⟩
  obtain ⟨g3, hg3⟩ : ∃ g3, g3 = wrH g2 145 0 (fun _ => 1) 6 := ⟨_, rfl⟩
  obtain ⟨g4, e4, q4, r4, t4⟩ := c_fillL (h := g3) (a := 146) (v := 0) (by decide)
  obtain ⟨g6, hg6⟩ : ∃ g6, g6 = sI (sL g4 142 7 0) 142 11 (nI 0) := ⟨_, rfl⟩
  obtain ⟨g7, hg7⟩ : ∃ g7, g7 = wrH g6 150 0 (fun _ => 0) 8 := ⟨_, rfl⟩
  obtain ⟨g8, hg8⟩ : ∃ g8, g8 = wrH g7 151 0 (fun i => i % 8) 320 := ⟨_, rfl⟩
  have S2 : Same [142, 144] h g2 := by rw [hg2]; exact (((((Same.ofI (by decide)).tr (Same.ofI (by decide))).tr (Same.ofI (by decide))).tr (Same.ofI (by decide))).tr (Same.ofI (by decide)))
  have S3 : Same [145] g2 g3 := by rw [hg3]; exact wrH_S 6
  have S6 : Same [142] g4 g6 := by rw [hg6]; exact (Same.ofL (by decide)).tr (Same.ofI (by decide))
  have S7 : Same [150] g6 g7 := by rw [hg7]; exact wrH_S 8
  have S8 : Same [151] g7 g8 := by rw [hg8]; exact wrH_S 320
  have i142 : ∀ j, g8.1 142 j = g6.1 142 j := fun j => by rw [(S8 142 (by decide)).1, (S7 142 (by decide)).1]
  have i142' : ∀ j, j ≠ 11 → g8.1 142 j = g2.1 142 j := fun j hj => by rw [i142, hg6, sI_nk1 hj, sL1, r4, (S3 142 (by decide)).1]
  have i144 : ∀ j, g8.1 144 j = g2.1 144 j := fun j => by rw [(S8 144 (by decide)).1, (S7 144 (by decide)).1, (S6 144 (by decide)).1, (q4 144 (by decide)).1, (S3 144 (by decide)).1]
  have i145 : ∀ j, j < 6 → g8.1 145 j = nI 1 := fun j hj => by
    rw [(S8 145 (by decide)).1, (S7 145 (by decide)).1, (S6 145 (by decide)).1, (q4 145 (by decide)).1, hg3]
    have := wrH_in (h := g2) (c := 145) (b := 0) (f := fun _ => 1) (i := j) 6 hj
    rw [Nat.zero_add] at this
    exact this
  have i150 : ∀ j, j < 8 → g8.1 150 j = nI 0 := fun j hj => by
    rw [(S8 150 (by decide)).1, hg7]
    have := wrH_in (h := g6) (c := 150) (b := 0) (f := fun _ => 0) (i := j) 8 hj
    rw [Nat.zero_add] at this
    exact this
  have i151 : ∀ j, j < 320 → g8.1 151 j = nI (j % 8) := fun j hj => by
    rw [hg8]
    have := wrH_in (h := g7) (c := 151) (b := 0) (f := fun i => i % 8) (i := j) 320 hj
    rw [Nat.zero_add] at this
    exact this
  have l146 : ∀ j, j < 5 → g8.2.1 146 j = 0 := fun j hj => by rw [(S8 146 (by decide)).2.1, (S7 146 (by decide)).2.1, (S6 146 (by decide)).2.1]; exact t4 j hj
  have l142 : g8.2.1 142 7 = 0 := by
    rw [(S8 142 (by decide)).2.1, (S7 142 (by decide)).2.1, hg6]
    show (sL g4 142 7 0).2.1 142 7 = 0
    exact sL_s
  refine ⟨g8, ?_, ?_, fun nS nK nm => ⟨⟨?_, ?_, ?_, ?_, ?_⟩, ⟨fun i hi => ?_, fun i hi => ?_, fun w hw => ?_⟩, fun b b1 b2 => ?_, ⟨fun k hk => ?_, ?_⟩, fun w hw => ?_, ⟨fun w hw => ?_, ?_⟩, fun i hi => ?_⟩⟩
  · unfold f_X10_clear f_X1_tell
    rw [li_0, lt_s1, lt_s1, lt_s1, lt_s1, lt_s1, bnvS]
    rw [show sI (sI (sI (sI (sI h 142 0 (nI 0)) 142 1 (nI 0)) 142 2 (nI 0)) (142 + 2) 0 3) (142 + 2) 1 1 = g2 from hg2.symm, show f_J7_fill_53178 (142 + 3) 1 g2 = _ from c_fillW (a := 142 + 3) (c := 1) rfl (by decide), bnvS, show wrH g2 (142 + 3) 0 (fun _ => 1) (aln (142 + 3)) = g3 from hg3.symm, show f_J7_fill_d0a16 (142 + 4) 0 g3 = some g4 from e4, bnvS, lt_s1, lt_s1, show sI (sL g4 142 7 0) 142 11 (nI 0) = g6 from hg6.symm, show f_J7_fill_53178 (142 + 8) (nI 0) g6 = _ from c_fillW (a := 142 + 8) (c := 0) rfl (by decide), bnvS, show wrH g6 (142 + 8) 0 (fun _ => 0) (aln (142 + 8)) = g7 from hg7.symm, ← li_0, c_clear60, hg8]
  · exact ((((S2.mono (by decide)).tr (S3.mono (by decide))).tr (q4.mono (by decide))).tr (S6.mono (by decide))).tr ((S7.mono (by decide)).tr (S8.mono (by decide)))
  · rw [i142' 0 (by decide), hg2, sI_ne1 (by decide), sI_ne1 (by decide), sI_nk1 (by decide), sI_nk1 (by decide), sI_s]; rfl
  · rw [i142' 1 (by decide), hg2, sI_ne1 (by decide), sI_ne1 (by decide), sI_nk1 (by decide), sI_s]; rfl
  · rw [i142' 2 (by decide), hg2, sI_ne1 (by decide), sI_ne1 (by decide), sI_s]; rfl
  · show g8.1 144 0 = _
    rw [i144, hg2, sI_nk1 (by decide), sI_s]; rfl
  · show g8.1 144 1 = _
    rw [i144, hg2, sI_s]; rfl
  · exact absurd hi (by rw [plT_0 (by omega) (by omega) (by omega)]; omega)
  · exact absurd hi (by rw [plT_0 (by omega) (by omega) (by omega)]; omega)
  · exact absurd hw (by rw [plT_0 (by omega) (by omega) (by omega)]; omega)
  · rw [plT_c b1 b2]; exact i145 b (by omega)
  · have e : ahd plT k = 0 := by
      unfold ahd
      rw [plT_0 (by omega) (by omega) (by omega), plT_0 (by omega) (by omega) (by omega), plT_0 (by omega) (by omega) (by omega), plT_0 (by omega) (by omega) (by omega), plT_0 (by omega) (by omega) (by omega), plT_0 (by omega) (by omega) (by omega)]
    rw [e]; exact l146 k hk
  · have e : ens plT = 0 := by
      unfold ens
      rw [plT_0 (by omega) (by omega) (by omega), plT_0 (by omega) (by omega) (by omega), plT_0 (by omega) (by omega) (by omega), plT_0 (by omega) (by omega) (by omega), plT_0 (by omega) (by omega) (by omega)]
    rw [e]; exact l142
  · exact absurd hw (by rw [plT_0 (by omega) (by omega) (by omega)]; omega)
  · have e : rds plT w = 0 := by
      unfold rds
      rw [plT_0 (by omega) (by omega) (by omega), plT_0 (by omega) (by omega) (by omega), plT_0 (by omega) (by omega) (by omega), plT_0 (by omega) (by omega) (by omega), plT_0 (by omega) (by omega) (by omega)]
    rw [e]; exact i150 w hw
  · have e : idl plT = 0 := by
      unfold idl
      rw [plT_0 (by omega) (by omega) (by omega), plT_0 (by omega) (by omega) (by omega), plT_0 (by omega) (by omega) (by omega), plT_0 (by omega) (by omega) (by omega), plT_0 (by omega) (by omega) (by omega), plT_0 (by omega) (by omega) (by omega), plT_0 (by omega) (by omega) (by omega), plT_0 (by omega) (by omega) (by omega)]
    rw [e, i142, hg6]; exact sI_s
  · have e : mk plT i = i % 8 := by
      unfold mk
      rw [plT_0 (by omega) (by omega) (by omega), if_neg (by omega)]
    rw [e]; exact i151 i hi
theorem m_plain : ∃ h', f_X13_plainTongue h = some h' ∧ Same [158] h h' ∧ (∀ nS nK nm, RgM h' plT nS nK nm) ∧ unM h h' := by
  obtain ⟨g3, hg3⟩ : ∃ g3, g3 = sI (sI (wrH h 158 0 (fun _ => 0) 437) 158 3 (nI 3)) 158 4 (nI 1) := ⟨_, rfl⟩
  have e1 : ∀ K : Hp → Option Hp, itr2 (F_X13_plainTongue_2 K) N0 0 h = K (wrH h 158 0 (fun _ => 0) 437) := fun K => by
    refine sq2 437 (fun i => nI i) (fun i => wrH h 158 0 (fun _ => 0) i) (fun self => ?_) (fun self i hi => ?_) (by omega) rfl rfl
    · unfold F_X13_plainTongue_2
      exact if_pos (by decide)
    · unfold F_X13_plainTongue_2
      rw [if_neg (show ¬ (437 : Int32) ≤ nI i from nI_ge (b := 437) (a := i) hi (by omega)), if_pos (inb_nI hi (by omega)), lt_s1, clp (by omega), nI_1, li_0]
      show self _ (sI (wrH h 158 0 (fun _ => 0) i) 158 i (nI 0)) = self _ (sI (wrH h 158 0 (fun _ => 0) i) 158 (0 + i) (nI 0))
      rw [Nat.zero_add]
  have e2 : itr2 (F_X13_plainTongue_38 (fun h10 => some h10)) N0 0 g3 = some (wrH g3 158 432 (fun _ => 1) 5) := by
    refine sq2 5 (fun i => nI i) (fun i => wrH g3 158 432 (fun _ => 1) i) (fun self => ?_) (fun self i hi => ?_) (by omega) rfl rfl
    · unfold F_X13_plainTongue_38
      exact if_pos (by decide)
    · unfold F_X13_plainTongue_38
      rw [if_neg (show ¬ (5 : Int32) ≤ nI i from nI_ge (b := 5) (a := i) hi (by omega)), li_432, nI_add, if_pos (inb_nI (by omega) (by omega)), lt_s1, clp (by omega), nI_1]
      rfl
  refine ⟨wrH g3 158 432 (fun _ => 1) 5, ?_, ?_, fun nS nK nm => ⟨fun k hk => ?_, fun i hi => ?_, fun i hi => ?_, fun i hi => ?_⟩, ?_⟩
  · unfold f_X13_plainTongue
    rw [e1, show (3 : Int32).toNatClampNeg = 3 from lc (n := 3) (by decide), show (4 : Int32).toNatClampNeg = 4 from lc (n := 4) (by decide), lt_s1, lt_s1, show sI (sI (wrH h 158 0 (fun _ => 0) 437) 158 3 3) 158 4 1 = g3 from hg3.symm, e2]
  · exact (show Same [158] h g3 by rw [hg3]; exact ((wrH_S 437).tr (Same.ofI (by decide))).tr (Same.ofI (by decide))).tr (wrH_S 5)
  · by_cases z : 432 ≤ k
    · obtain ⟨i, hi⟩ : ∃ i, i = k - 432 := ⟨_, rfl⟩
      rw [show k = 432 + i by omega, wrH_in 5 (by omega), show plT (432 + i) = plT (431 + (1 + i)) by rw [show 432 + i = 431 + (1 + i) by omega], plT_c (by omega) (by omega)]
    · rw [wrH_out 5 (by omega), hg3]
      by_cases z4 : k = 4
      · rw [z4, sI_s]; rfl
      · rw [sI_nk1 z4]
        by_cases z3 : k = 3
        · rw [z3, sI_s]; rfl
        · rw [sI_nk1 z3, plT_0 z3 z4 (by omega)]
          have := wrH_in (h := h) (c := 158) (b := 0) (f := fun _ => 0) (i := k) 437 hk
          rw [Nat.zero_add] at this
          exact this
  · exact absurd hi (by rw [plT_0 (by omega) (by omega) (by omega)]; omega)
  · exact absurd hi (by rw [plT_0 (by omega) (by omega) (by omega)]; omega)
  · exact absurd hi (by rw [plT_0 (by omega) (by omega) (by omega)]; omega)
  · exact (show unM h g3 by rw [hg3]; exact ((wrH_158 437).tr unM.ofI158).tr unM.ofI158).tr (wrH_158 5)
/-! what becomes of sets, settled -/
theorem c_four {b set : Nat} (R : ∀ i, i < 320 → h.1 151 i = nI (mk ρ i)) (H : TgOk ρ nm) (hb : b + 3 < 320) (hs : set < 16) : f_X10_madeOfFour 142 (nI b) (nI set) h = some (nI (img4 (mk ρ) b set), h) := by
  have m0 := mk_lt H (i := b) (by omega)
  have m1 := mk_lt H (i := b + 1) (by omega)
  have m2 := mk_lt H (i := b + 2) (by omega)
  have m3 := mk_lt H (i := b + 3) (by omega)
  unfold f_X10_madeOfFour img4
  have st : ∀ (x i : Nat) self k40, i < 4 → F_X10_madeOfFour_5 142 (nI b) (nI set) k40 self (nI x) (nI i) h = self (nI (x ||| if set.testBit i then 2 ^ mk ρ (b + i) else 0)) (nI (i + 1)) h := fun x i self k40 hi => by
    have ml := mk_lt H (i := b + i) (by omega)
    unfold F_X10_madeOfFour_5
    rw [if_neg (show ¬ (4 : Int32) ≤ nI i from nI_ge (b := 4) (a := i) hi (by omega)), li_1, bitN (by omega) (by omega), ← li_1, nI_1]
    cases hb : set.testBit i
    · rw [if_pos (show nI false.toNat = 0 from rfl), if_neg (show ¬ false = true by decide), Nat.or_zero]
    · rw [if_neg (show ¬ nI true.toNat = 0 by decide), if_pos (show true = true from rfl), nI_add, if_pos (inb_nI (by omega) (by decide)), clp (by omega), show (142 + 9 : Nat) = 151 from rfl, R _ (by omega), li_1, shl1 (by omega), fa_or, lt_s1]
  refine sq3 4 (fun i => nI (match i with
    | 0 => 0
    | 1 => 0 ||| (if set.testBit 0 then 2 ^ mk ρ (b + 0) else 0)
    | 2 => 0 ||| (if set.testBit 0 then 2 ^ mk ρ (b + 0) else 0) ||| (if set.testBit 1 then 2 ^ mk ρ (b + 1) else 0)
    | 3 => 0 ||| (if set.testBit 0 then 2 ^ mk ρ (b + 0) else 0) ||| (if set.testBit 1 then 2 ^ mk ρ (b + 1) else 0) ||| (if set.testBit 2 then 2 ^ mk ρ (b + 2) else 0)
    | _ => 0 ||| (if set.testBit 0 then 2 ^ mk ρ (b + 0) else 0) ||| (if set.testBit 1 then 2 ^ mk ρ (b + 1) else 0) ||| (if set.testBit 2 then 2 ^ mk ρ (b + 2) else 0) ||| (if set.testBit 3 then 2 ^ mk ρ (b + 3) else 0))) (fun i => nI i) (fun _ => h) (fun self => ?_) (fun self i hi => ?_) (by omega) rfl rfl rfl
  · unfold F_X10_madeOfFour_5
    rw [if_pos (show (4 : Int32) ≤ nI 4 by decide), Nat.zero_or, Nat.add_zero]
    rfl
  · rw [st _ i _ _ hi]
    rcases (show i = 0 ∨ i = 1 ∨ i = 2 ∨ i = 3 by omega) with rfl | rfl | rfl | rfl <;> rfl
theorem c_settle (R : ∀ i, i < 320 → h.1 151 i = nI (mk ρ i)) (H : TgOk ρ nm) : f_X10_settle 142 h = some (wrH h 152 0 (mos ρ) 1280) := by
  unfold f_X10_settle
  refine sq2 40 (fun p => nI p) (fun p => wrH h 152 0 (mos ρ) (32 * p)) (fun self => ?_) (fun self p hp => ?_) (by omega) rfl rfl
  · unfold F_X10_settle_2
    exact if_pos (by decide)
  · unfold F_X10_settle_2
    rw [if_neg (show ¬ (40 : Int32) ≤ nI p from nI_ge (b := 40) (a := p) hp (by omega)), nI_1]
    refine sq2 32 (fun i => nI i) (fun i => wrH h 152 0 (mos ρ) (32 * p + i)) (fun self2 => ?_) (fun self2 i hi => ?_) (by omega) rfl rfl
    · unfold F_X10_settle_10
      rw [if_pos (show (32 : Int32) ≤ nI 32 by decide), show 32 * p + 32 = 32 * (p + 1) by omega]
    · have R2 : ∀ j, j < 320 → (wrH h 152 0 (mos ρ) (32 * p + i)).1 151 j = nI (mk ρ j) := fun j hj => by rw [(wrH_S (32 * p + i) 151 (by decide)).1]; exact R j hj
      have i4 : p * 8 + i / 2 ^ 4 * 4 + 3 < 320 := by
        have : i / 2 ^ 4 < 2 := by
          show i / 16 < 2
          omega
        omega
      unfold F_X10_settle_10
      rw [if_neg (show ¬ (32 : Int32) ≤ nI i from nI_ge (b := 32) (a := i) hi (by omega)), li_4, shrN (by omega) (by omega), li_8, pk_mul, pk_mul, nI_add, li_15, nand15 i (by omega), c_four R2 H i4 (by omega), bndS, li_32, pk_mul, nI_add, if_pos (inb_nI (by omega) (by decide)), clp (by omega), lt_s1, nI_1]
      have e : img4 (mk ρ) (p * 8 + i / 2 ^ 4 * 4) (i % 16) = mos ρ (32 * p + i) := by
        unfold mos
        rw [show (32 * p + i) / 32 = p by omega, show (32 * p + i) % 32 = i by omega, show (32 * p + i) % 16 = i % 16 by omega]
      rw [e, show p * 32 + i = 0 + (32 * p + i) by omega]
      rfl
end UNGW
