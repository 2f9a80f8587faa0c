section UNGX
variable {tp : List Nat} {σ : Nat → Nat} {nm : Nat → List Nat} {K : Im} {fd : List Nat} {fl : Nat} {tn : Option Tn} {h h' : Hp}
theorem MR.un {fl2 : Nat} (H : MR tp σ nm K fd fl tn h) (h8 : σ 2 ≤ 8) (u : unM h h') (h14 : h'.1 155 14 = nI fl2) : MR tp σ nm K fd fl2 tn h' := by
  obtain ⟨a, b, c, d, f, k, g, m, n⟩ := H
  obtain ⟨hs, h1, h2, h3⟩ := u
  have e : ∀ q, q ∉ [155, 158, 159] → h'.1 q = h.1 q := fun q h2 => (hs q h2).1
  have l : ∀ q, q ∉ [155, 158, 159] → h'.2.1 q = h.2.1 q := fun q h2 => (hs q h2).2.1
  refine ⟨?_, ?_, fun w hw => ?_, ?_, h14, ?_, ?_, ?_, ?_⟩
  · rw [h1 2 (by decide), e 156 (by decide)]; exact a
  · rw [e 157 (by decide)]; exact b
  · rw [h3 _ (by omega)]; exact c w hw
  · rw [e 185 (by decide), e 183 (by decide), l 184 (by decide)]; exact d
  · rw [h1 42 (by decide), e 176 (by decide)]; exact k
  · rw [h1 53 (by decide), h1 51 (by decide), h2 52 (by decide), e 179 (by decide), e 180 (by decide)]; exact g
  · rw [l 160 (by decide)]; exact m
  · unfold Cache
    rw [h1 31 (by decide), e 164 (by decide), e 165 (by decide), e 166 (by decide)]; exact n
/-- the TONGUE's numbers alone -/
def tgS (ρ : Nat → Nat) : Nat → Nat := fun j => if j < 437 then ρ j else 0
theorem tgS_lo {ρ : Nat → Nat} {j : Nat} (hj : j < 437) : tgS ρ j = ρ j := if_pos hj
theorem tgS_hi {ρ : Nat → Nat} {j : Nat} (hj : 437 ≤ j) : tgS ρ j = 0 := if_neg (by omega)
/-- how the reference ends -/
def tgK (h18 : Hp) : Option (Int32 × Hp) :=
  itr2 (F_X13_tongue_85 (fun h24 =>
    itr2 (F_X13_tongue_123 (fun h29 =>
      lt (sI h29 155 31 1) fun h30 =>
      some (h30.1 155 18, h30))) N0 0 h24)) N0 0 h18
theorem m_tgK {ρ : Nat → Nat} {x : Nat} {g : Hp} (R : ∀ k, k < 437 → g.1 158 k = nI (ρ k)) (h18 : g.1 155 18 = nI x) : ∃ g', tgK g = some (nI x, g') ∧ Same [155, 157, 159] g g' ∧ (∀ j, j ≠ 31 → g'.1 155 j = g.1 155 j) ∧ g'.2.1 155 = g.2.1 155 ∧ g'.1 155 31 = 1 ∧ (∀ k, k < 713 → g'.1 157 k = nI (tgS ρ k)) ∧ ∀ a, a < 16 → g'.2.1 159 a = g.2.1 159 (16 + a) := by
  obtain ⟨kB, ekB⟩ : ∃ k : Hp → Option (Int32 × Hp), k = fun h29 => lt (sI h29 155 31 1) fun h30 => some (h30.1 155 18, h30) := ⟨_, rfl⟩
  obtain ⟨kA, ekA⟩ : ∃ k : Hp → Option (Int32 × Hp), k = fun h24 => itr2 (F_X13_tongue_123 kB) N0 0 h24 := ⟨_, rfl⟩
  have e1 : itr2 (F_X13_tongue_85 kA) N0 0 g = kA (wrH g 157 0 (tgS ρ) 713) := by
    refine sq2 713 (fun i => nI i) (fun i => wrH g 157 0 (tgS ρ) i) (fun self => ?_) (fun self i hi => ?_) (by omega) rfl rfl
    · unfold F_X13_tongue_85
      exact if_pos (by decide)
    · unfold F_X13_tongue_85
      rw [if_neg (show ¬ (713 : Int32) ≤ nI i from nI_ge (b := 713) (a := i) hi (by omega))]
      have fin : ∀ v : Int32, v = nI (tgS ρ i) → B_X13_tongue_114 kA self (nI i) v (nI i) (wrH g 157 0 (tgS ρ) i) = self (nI (i + 1)) (wrH g 157 0 (tgS ρ) (i + 1)) := fun v hv => by
        unfold B_X13_tongue_114
        rw [if_pos (inb_nI hi (by decide)), clp (by omega), lt_s1, nI_1, hv]
        show self _ (sI (wrH g 157 0 (tgS ρ) i) 157 i (nI (tgS ρ i))) = self _ (sI (wrH g 157 0 (tgS ρ) i) 157 (0 + i) (nI (tgS ρ i)))
        rw [Nat.zero_add]
      by_cases z : i < 437
      · rw [if_neg (show ¬ (437 : Int32) ≤ nI i from nI_ge (b := 437) (a := i) z (by omega)), if_pos (inb_nI z (by decide)), clp (by omega)]
        exact fin _ (by rw [(wrH_S i 158 (by decide)).1, R i z, tgS_lo z])
      · rw [if_pos (show (437 : Int32) ≤ nI i from nI_le (a := 437) (b := i) (by omega) (by omega))]
        exact fin _ (by rw [tgS_hi (by omega)]; rfl)
  obtain ⟨g1, hg1⟩ : ∃ g1, g1 = wrH g 157 0 (tgS ρ) 713 := ⟨_, rfl⟩
  have S1 : Same [157] g g1 := by rw [hg1]; exact wrH_S 713
  obtain ⟨g2, f2, t1, t2, t3, t4⟩ := loop2n (F := F_X13_tongue_123 kB) (k := kB) 16 (fun j q => Same [159] g1 q ∧ q.1 = g1.1 ∧ (∀ a, a < j → q.2.1 159 a = g.2.1 159 (16 + a)) ∧ ∀ a, 16 ≤ a → q.2.1 159 a = g.2.1 159 a) (fun self q _ => by
      unfold F_X13_tongue_123
      rw [if_pos (by decide)]) (fun self j q hj ⟨y1, y2, y3, y4⟩ => by
      refine ⟨sL q 159 j (g.2.1 159 (16 + j)), ?_, y1.tr (Same.ofL (by decide)), y2, fun a ha => ?_, fun a ha => ?_⟩
      · unfold F_X13_tongue_123
        rw [li_16, if_neg (nI_ge hj (by omega)), nI_add, if_pos (inb_nI (by omega) (by decide)), if_pos (inb_nI (by omega) (by decide)), lt_s0, nI_clamp (by omega), nI_clamp (by omega), y4 _ (by omega), nI_1]
      · by_cases ha2 : a = j
        · subst ha2
          rw [sL_s]
        · rw [sL_nk1 ha2]
          exact y3 a (by omega)
      · rw [sL_nk1 (by omega)]; exact y4 a ha) g1 ⟨Same.rf, rfl, fun a ha => by omega, fun a ha => by rw [(S1 159 (by decide)).2.1]⟩ (by omega)
  obtain ⟨g3, eg3⟩ : ∃ q, q = sI g2 155 31 1 := ⟨_, rfl⟩
  have i155 : ∀ j, j ≠ 31 → g3.1 155 j = g.1 155 j := fun j hj => by rw [eg3, sI_nk1 hj, t2, (S1 155 (by decide)).1]
  refine ⟨g3, ?_, ?_, i155, ?_, by rw [eg3, sI_s], fun k hk => ?_, fun a ha => ?_⟩
  · unfold tgK
    rw [← ekB, ← ekA, e1, ekA]
    show itr2 (F_X13_tongue_123 kB) N0 0 (wrH g 157 0 (tgS ρ) 713) = _
    rw [← hg1, li_0, f2, ekB]
    show lt (sI g2 155 31 1) _ = _
    rw [lt_s1, ← eg3, i155 18 (by decide), h18]
  · rw [eg3]
    exact ((S1.mono (by decide)).tr (t1.mono (by decide))).tr (Same.ofI (by decide))
  · rw [eg3]
    show g2.2.1 155 = _
    rw [(t1 155 (by decide)).2.1, (S1 155 (by decide)).2.1]
  · rw [eg3, sI_ne1 (by decide), t2, hg1]
    have := wrH_in (h := g) (c := 157) (b := 0) (f := tgS ρ) (i := k) 713 hk
    rw [Nat.zero_add] at this
    exact this
  · rw [eg3]
    show g2.2.1 159 a = _
    exact t3 a ha
theorem tg_neg (q : Nat) (hq : q ≤ 1000) : (-1 : Int32) - nI q < 0 := by
  have e : (-1 : Int32) - nI q = mI (1 + q) := by
    unfold mI
    rw [← nI_add, show nI 1 = (1 : Int32) from rfl, Int32.neg_add, Int32.sub_eq_add_neg]
  rw [e]
  have := ltMT (a := 1 + q) (b := 0) (by omega) (by omega) (by omega)
  exact of_eq_true this
theorem tongueA (hA : AbOk tp σ nm K fd fl tn) (hC : CR tp σ nm K fd fl tn h) (hM : MR tp σ nm K fd fl tn h) (p : Hp) (hp : Hi h p) : ∃ v h1 h2, f_X12_tongue h = some (v, h1) ∧ f_X13_tongue p = some (v, h2) ∧ Hi h h1 ∧ Lo p h2 ∧ ∃ σ' nm' fl', AbOk [] σ' nm' K fd fl' tn ∧ CR [] σ' nm' K fd fl' tn h1 ∧ MR [] σ' nm' K fd fl' tn h2 := by
  have H := hA.2.1.1
  have T : Tp tp := hA.1
  have h8 := H.1.2.2.1
  have nb := N0_big
  obtain ⟨N, hN⟩ : ∃ N : Nat → List Nat, N = fun _ => [] := ⟨_, rfl⟩
  -- the class begins
  obtain ⟨g1, E1, s1, s2, s3, s4, s5⟩ := c_begin6 (h := h) (t := 142) (L := 900) T (by omega) hC.1.1 hC.1.2
  obtain ⟨g2, E2, c2, R2⟩ := c_clear (h := g1)
  obtain ⟨g4, hg4⟩ : ∃ g4, g4 = sI (sI g2 4 2 (nI 0)) 4 3 (nI 0) := ⟨_, rfl⟩
  have S4 : Same [4] g2 g4 := by rw [hg4]; exact (Same.ofI (by decide)).tr (Same.ofI (by decide))
  have C0 : SC tp (tkB tp 900 0) plT N N N 0 0 g4 := by
    refine ⟨(s3.same c2 (by decide)).same S4 (by decide), (R2 N N N).same S4 (fun a h1 h2 => by simp only [List.mem_cons, List.not_mem_nil, or_false]; omega), ?_, ?_, ?_, ?_⟩
    · rw [hg4]
      show g2.2.2 4 1 = 142
      rw [(c2 4 (by decide)).2.2]; exact s4
    · rw [hg4, sI_nk1 (by decide)]; exact sI_s
    · rw [hg4]; exact sI_s
    · rw [hg4, sI_nk1 (by decide), sI_nk1 (by decide), (c2 4 (by decide)).1]; exact s5
  have V0 : Same unC h g4 := ((s1.mono (by decide)).tr (c2.mono (by decide))).tr (S4.mono (by decide))
  -- the reference begins
  have M1 := (hM.hi hp).keep (th_Eq 0)
  obtain ⟨p2, e2, M2, t2, t2', r3, r4, r5, r6, r7⟩ := m_taken 900 M1
  obtain ⟨p6, hp6⟩ : ∃ p6, p6 = sI (sI (sI (sI p2 155 14 (nI 0)) 155 18 (nI 0)) 155 19 (nI 0)) 155 20 (nI 0) := ⟨_, rfl⟩
  have U6 : unM p2 p6 := by rw [hp6]; exact (((unM.ofI155 (by decide)).tr (unM.ofI155 (by decide))).tr (unM.ofI155 (by decide))).tr (unM.ofI155 (by decide))
  obtain ⟨p7, e7, q7, R7, U7⟩ := m_plain (h := p6)
  have i7 : ∀ j, p7.1 155 j = p6.1 155 j := fun j => by rw [(q7 155 (by decide)).1]
  have k7 : ∀ j, j ∉ [14, 18, 19, 20] → p7.1 155 j = p2.1 155 j := fun j hj => by
    simp only [List.mem_cons, List.not_mem_nil, or_false, not_or] at hj
    rw [i7, hp6, sI_nk1 hj.2.2.2, sI_nk1 hj.2.2.1, sI_nk1 hj.2.1, sI_nk1 hj.1]
  obtain ⟨p8, e8, v1, v2, v3, v4⟩ := m_nx0 (h := p7) (tp := tp) (L := 900) (p := 0) T (by omega) (Nat.zero_le _) ⟨by rw [k7 3 (by decide)]; exact r3, by rw [k7 4 (by decide)]; exact r4, by rw [k7 5 (by decide)]; exact r5, by
    rw [(q7 156 (by decide)).1, hp6, sI_ne1' (by decide), sI_ne1' (by decide), sI_ne1' (by decide), sI_ne1' (by decide)]; exact r6⟩
  have U8 : unM p2 p8 := (U6.tr U7).tr (unM.ofF v1 v2)
  have h14 : p8.1 155 14 = nI 0 := by rw [v3, i7, hp6, sI_nk1 (by decide), sI_nk1 (by decide), sI_nk1 (by decide)]; exact sI_s
  have h18 : p8.1 155 18 = nI 0 := by rw [v2.1 18 (by decide), i7, hp6, sI_nk1 (by decide), sI_nk1 (by decide)]; exact sI_s
  have M0 : SM tp (tkB tp 900 0) plT N N N 0 0 p8 := by
    refine ⟨v4, (R7 N N N).same v1 (by decide), ?_, ?_, ?_, h14⟩
    · rw [(U8.1 160 (by decide)).2.1]; exact M2.2.2.2.2.2.2.2.1
    · rw [v2.1 19 (by decide), i7, hp6, sI_nk1 (by decide)]; exact sI_s
    · rw [v2.1 20 (by decide), i7, hp6]; exact sI_s
  have O0 : SO tp (tkB tp 900 0) plT N N N 0 0 := ⟨T, plT_ok N N N, (tkB_le tp 900 0).1, by omega, by omega⟩
  -- both loops
  have L := tg_loop (tp := tp) tgK 900 (tkB tp 900 0) 0 plT N N N 0 0 g4 p8 N0 N0 (by omega) (by omega) (by omega) (tkB_le tp 900 0).2 (Nat.zero_le _) O0 C0 M0 h18
  have EC : f_X6_readTongue 2 142 h = itr2 tgC N0 (nI 0) g4 := by
    unfold f_X6_readTongue
    rw [show (900 : Int32) = nI 900 from rfl, E1, bnvS, E2, bnvS, li_0, lt_s1, lt_s1, ← hg4]
    rfl
  have ER : f_X13_tongue p = itr1 (tgM tgK) N0 p8 := by
    unfold f_X13_tongue
    rw [lt_s1, e2, bnvS, li_0, lt_s1, lt_s1, lt_s1, lt_s1, ← hp6, e7, bnvS, e8, bnvS]
    rfl
  rw [← EC, ← ER] at L
  have Lp2 : Lo p p2 := (th_Lo 0).tr (t2.lo (by decide))
  have LoM : ∀ g, unM p8 g → Lo p g := fun g u => Lp2.tr ((U8.tr u).1.lo (by decide))
  have cls : ∀ v g, f_X6_readTongue 2 142 h = some (v, g) → f_X12_tongue h = (if v < 0 then some (v, sI (sI g 2 1 0) 1 11 (g.1 4 4)) else bnv (f_X5_begin 6 142 (sI (sI g 2 1 0) 1 11 (g.1 4 4))) fun h6 => some (v, h6)) := fun v g hv => by
    unfold f_X12_tongue
    rw [hv, bndS, lt_s1, lt_s1]
    rfl
  have CC : ∀ fl2 g, Same unC h g → g.1 4 4 = nI fl2 → CR [] σ nm K fd fl2 tn (sI (sI g 2 1 0) 1 11 (g.1 4 4)) := fun fl2 g Sg hf => by
    have SS : Same (1 :: 2 :: unC) h (sI (sI g 2 1 0) 1 11 (g.1 4 4)) := ((Sg.mono (fun a h1 => List.mem_cons_of_mem _ (List.mem_cons_of_mem _ h1))).tr (Same.ofI (by decide))).tr (Same.ofI (by decide))
    exact hC.read hA (fun a ha => ⟨(SS a ha).1, (SS a ha).2.1⟩) (by decide) (by rw [sI_ne1 (by decide)]; exact sI_s) (by rw [sI_s]; exact hf)
  have hi3 : ∀ g, Same unC h g → Hi h (sI (sI g 2 1 0) 1 11 (g.1 4 4)) := fun g Sg => (Sg.hi (by decide)).tr (((Same.ofI (X := [2]) (by decide)).hi (by decide)).tr ((Same.ofI (X := [1]) (by decide)).hi (by decide)))
  rcases L with ⟨k, q, gc', gm', a1, a2, a3, a4, a5, a6, a7, a8, a9⟩ | ⟨x, s, ρ, nS, nK, nm', ed, ck, gc', gm', a1, a2, a3, O, C, M, k18, a8, a9⟩
  · refine ⟨_, _, gm', by rw [cls _ _ a1, if_pos (tg_neg q a5)], a2, hi3 gc' (V0.tr a8), LoM gm' a9, σ, nm, k, hA.empty.flt a4, CC k gc' (V0.tr a8) a6, M2.un h8 (U8.tr a9) a7⟩
  · have Hρ := O.2.1.1
    have r8 := Hρ.1.2.2.1
    obtain ⟨g5, hg5⟩ : ∃ g5, g5 = wrH gc' 152 0 (mos ρ) 1280 := ⟨_, rfl⟩
    have S5 : Same [152] gc' g5 := by rw [hg5]; exact wrH_S 1280
    have V5 : Same unC h g5 := (V0.tr a8).tr (S5.mono (by decide))
    have T5 : TgRep g5 142 ρ nm' := by
      obtain ⟨z1, ⟨z2, z3, z4⟩, z5, z6, z7, z8, z9⟩ := C.2.1.same S5 (fun a h1 h2 => by simp only [List.mem_cons, List.not_mem_nil, or_false]; omega)
      refine ⟨z1, z4, z5, z6, z7, z8, z9, fun _ i hi => ?_⟩
      show g5.1 152 i = _
      rw [hg5]
      have := wrH_in (h := gc') (c := 152) (b := 0) (f := mos ρ) (i := i) 1280 hi
      rw [Nat.zero_add] at this
      exact this
    rw [c_settle C.2.1.2.2.2.2.2.2 Hρ, bnvS, ← hg5] at a1
    have f0 : g5.1 4 4 = nI 0 := by rw [(S5 4 (by decide)).1]; exact C.2.2.2.2.2
    obtain ⟨g6, hg6⟩ : ∃ g6, g6 = sI (sI g5 2 1 0) 1 11 (g5.1 4 4) := ⟨_, rfl⟩
    have C6 : CR [] σ nm K fd 0 tn g6 := by rw [hg6]; exact CC 0 g5 V5 f0
    have I6 : Hi h g6 := by rw [hg6]; exact hi3 g5 V5
    have S6 : Same [1, 2] g5 g6 := by rw [hg6]; exact (Same.ofI (by decide)).tr (Same.ofI (by decide))
    have T6 : TgRep g6 142 ρ nm' := T5.kept (fun a h1 h2 => by
      have := S6 a (by simp only [List.mem_cons, List.not_mem_nil, or_false]; omega)
      exact ⟨this.1, this.2.1⟩)
    obtain ⟨g7, e7c, k7c, R7c⟩ := c_tgCopy (h := g6) (t := 7) (s := 142) (by omega)
    have T7 := R7c ρ nm' r8 T6
    obtain ⟨g8, hg8⟩ : ∃ g8, g8 = sI (sI g7 18 1 (nI 0)) 6 3 (nI 0) := ⟨_, rfl⟩
    have S8 : Same [6, 18] g7 g8 := by rw [hg8]; exact (Same.ofI (by decide)).tr (Same.ofI (by decide))
    have MT8 : MatRep g8 6 (tgS ρ) nm' := by
      refine ⟨TgRep.cong (σ := ρ) (fun k hk => tgS_lo hk) r8 (T7.kept (fun a h1 h2 => ?_)), ⟨?_, fun k hk => ?_⟩, ?_, fun c hc => ?_⟩
      · have := S8 a (by simp only [List.mem_cons, List.not_mem_nil, or_false]; omega)
        exact ⟨this.1, this.2.1⟩
      · rw [tgS_hi (by omega), hg8, sI_ne1 (by decide)]; exact sI_s
      · exact absurd hk (by rw [tgS_hi (by omega)]; omega)
      · rw [tgS_hi (by omega), hg8]; exact sI_s
      · exact absurd hc (by rw [tgS_hi (by omega)]; omega)
    have A0 : AbOk [] σ nm K fd 0 tn := hA.empty.flt (by omega)
    have A8 : AbOk [] (tgS ρ) nm' K fd 0 tn := by
      refine ⟨A0.1, ⟨TgOk.cong (σ := ρ) (fun k hk => tgS_lo hk) Hρ, ⟨by rw [tgS_hi (by omega)]; omega, fun k hk => absurd hk (by rw [tgS_hi (by omega)]; omega)⟩, by rw [tgS_hi (by omega)]; omega, fun c hc => absurd hc (by rw [tgS_hi (by omega)]; omega)⟩, A0.2.2⟩
    have k8 : ∀ a, a < 6 ∨ 40 < a → g8.1 a = g6.1 a ∧ g8.2.1 a = g6.2.1 a ∧ g8.2.2 a = g6.2.2 a := fun a ha => by
      have z := S8 a (by simp only [List.mem_cons, List.not_mem_nil, or_false]; omega)
      have y := k7c a (by omega)
      exact ⟨z.1.trans y.1, z.2.1.trans y.2.1, z.2.2.trans y.2.2⟩
    have C8 : CR [] (tgS ρ) nm' K fd 0 tn g8 := C6.mat A0 (fun a z1 z2 z3 => ⟨(k8 a z3).1, (k8 a z3).2.1⟩) (by rw [(k8 123 (by omega)).1]; exact C6.2.2.2.2.2.2) MT8
    -- the reference ends
    obtain ⟨m2, n1, n2, n3, n4, n5, n6, n7⟩ := m_tgK M.2.1.1 k18
    have Mg : MR [] σ nm K fd 0 tn gm' := M2.un h8 (U8.tr a9) M.2.2.2.2.2
    refine ⟨nI x, g8, m2, ?_, by rw [a2]; exact n1, I6.tr (fun a ha => k8 a (by omega)), (LoM gm' a9).tr (n2.lo (by decide)), tgS ρ, nm', 0, A8, C8, ?_⟩
    · rw [cls _ _ a1, if_neg (show ¬ nI x < 0 from nI_nlt (b := 0) (by omega) (by omega)), ← hg6]
      unfold f_X5_begin
      rw [show f_X10_copyFrom (6 + 1) 142 g6 = some g7 from e7c, bnvS, li_0, lt_s1, lt_s1, show sI (sI g7 (6 + 12) 1 (nI 0)) 6 3 (nI 0) = g8 from hg8.symm, bnvS]
    · refine Mg.mat n2 (by decide) (fun j hj => n3 j (fun z => by subst z; revert hj; decide)) (by rw [n4]) n5 n6 (fun w hw => ?_)
      rw [tgS_lo (by omega)] at hw
      rw [n7 _ (by omega), show 16 + (8 + w) = 24 + w by omega]
      exact M.2.1.2.2.2 w hw
theorem st_tongue (hI : Inv h) : ∃ v h1 h2, f_X12_tongue h = some (v, h1) ∧ f_X13_tongue h1 = some (v, h2) ∧ Inv h2 := by
  obtain ⟨tp, σ, nm, K, fd, fl, tn, hA, hC, hM⟩ := hI
  obtain ⟨v, h1, -, e1, -, i1, -⟩ := tongueA hA hC hM h Hi.rf
  obtain ⟨v', h1', h2, e1', e2, -, l2, σ', nm', fl', A2, C2, M2⟩ := tongueA hA hC hM h1 i1
  rw [e1] at e1'
  injection e1' with z
  injection z with z1 z2
  subst z1 z2
  exact ⟨v, h1, h2, e1, e2, [], σ', nm', K, fd, fl', tn, A2, C2.lo A2 l2, M2⟩
end UNGX
