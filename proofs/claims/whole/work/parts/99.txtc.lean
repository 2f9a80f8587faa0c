section TXTC
variable {tp : List Nat} {σ : Nat → Nat} {nm : Nat → List Nat} {K : Im} {fd : List Nat} {fl : Nat} {tn : Option Tn} {h h' : Hp}
/-- the reference at a token -/
def MT1 (tp : List Nat) (L s : Nat) (h : Hp) : Prop := (∃ q, q ≤ tp.length ∧ MTk tp L q h ∧ tkB tp L q = tkB tp L (tkX tp L s)) ∧ h.1 155 10 = nI (tkR tp L s) ∧ h.1 155 11 = nI s ∧ (tkR tp L s = 1 → h.2.1 155 16 = lN (nmM (nmT tp s))) ∧ (tkR tp L s = 2 → h.1 155 13 = nI (tkV tp s (tkE tp s - s))) ∧ (tkR tp L s = 3 → h.1 155 13 = nI 59)
def MFr (h h' : Hp) : Prop := (∀ j, j ∉ [4, 10, 11, 12, 13, 14, 15] → h'.1 155 j = h.1 155 j) ∧ (∀ j, j ≠ 16 → h'.2.1 155 j = h.2.1 155 j)
theorem MFr.rf : MFr h h := ⟨fun _ _ => rfl, fun _ _ => rfl⟩
theorem MFr.tr {h1 h2 h3 : Hp} (a : MFr h1 h2) (b : MFr h2 h3) : MFr h1 h3 := ⟨fun j hj => (b.1 j hj).trans (a.1 j hj), fun j hj => (b.2 j hj).trans (a.2 j hj)⟩
theorem m_nx0 {L p : Nat} (T : Tp tp) (hL : L ≤ 1000) (hp : p ≤ tp.length) (B : MTk tp L p h) : ∃ h', f_X13_next h = some h' ∧ Same [155] h h' ∧ MFr h h' ∧ h'.1 155 14 = h.1 155 14 ∧ MT1 tp L (tkB tp L p) h' := by
  obtain ⟨h', q, e, s1, s2, s3, s4, s5, s6, s7, s8, s9, s10, s11, s12⟩ := m_nextT T hL hp B
  refine ⟨h', e, s1, ⟨fun j hj => s2 j (fun z => hj ?_), s3⟩, s2 14 (by decide), ⟨q, s5, s6, s7⟩, s8, s9, s10, s11, s12⟩
  simp only [List.mem_cons, List.not_mem_nil, or_false] at z ⊢
  omega
theorem m_nx {L s : Nat} (T : Tp tp) (hL : L ≤ 1000) (B : MT1 tp L s h) : ∃ h', f_X13_next h = some h' ∧ Same [155] h h' ∧ MFr h h' ∧ h'.1 155 14 = h.1 155 14 ∧ MT1 tp L (tkB tp L (tkX tp L s)) h' := by
  obtain ⟨⟨q, q1, q2, q3⟩, -⟩ := B
  have := m_nx0 T hL q1 q2
  rw [q3] at this
  exact this
theorem MT1.same {L s : Nat} (B : MT1 tp L s h) {X : List Nat} (q : Same X h h') (hX : 155 ∉ X ∧ 156 ∉ X) : MT1 tp L s h' := by
  unfold MT1 MTk at B ⊢
  rw [(q 155 hX.1).1, (q 155 hX.1).2.1, (q 156 hX.2).1]
  exact B
theorem m_isNameT {L s : Nat} (B : MT1 tp L s h) (R : ∀ k, k < 16 → h.2.1 160 k = lN (resv.getD k 0)) : f_X13_isName h = some (nI (isNm tp L s).toNat, h) := by
  obtain ⟨-, b, c, d, -, -⟩ := B
  have rl := tkR_lt (tp := tp) L s
  unfold f_X13_isName isNm
  rw [b]
  by_cases h1 : tkQ tp L s = 1
  · have h2 : tkR tp L s = 1 := tkQ_R.mp h1
    have ok := nmT_ok (tkQ_K h1)
    have m48 := ok.m48
    rw [if_pos (show nI (tkR tp L s) = 1 by rw [h2]; rfl), decide_eq_true h1, Bool.true_and]
    refine sq3 16 (fun i => nI (!anyP (fun k => decide (kwL.getD k [] = nmT tp s)) i).toNat) (fun i => nI i) (fun _ => h) (fun self => ?_) (fun self i hi => ?_) (by omega) rfl rfl rfl
    · unfold F_X13_isName_16
      rw [if_pos (show (16 : Int32) ≤ nI 16 by decide)]
      unfold rsvB
      show (if isZ (nI (!anyP (fun k => decide (kwL.getD k [] = nmT tp s)) 16).toNat) = true then some (nI (!anyP (fun k => decide (kwL.getD k [] = nmT tp s)) 16).toNat, h) else none) = _
      rw [if_pos (by cases anyP (fun k => decide (kwL.getD k [] = nmT tp s)) 16 <;> decide)]
    · have okk := kwL_ok hi
      have e2 := kwL_m i hi
      have ms := okk.m48
      have ap : anyP (fun k => decide (kwL.getD k [] = nmT tp s)) (i + 1) = (anyP (fun k => decide (kwL.getD k [] = nmT tp s)) i || decide (kwL.getD i [] = nmT tp s)) := rfl
      unfold F_X13_isName_16
      rw [if_neg (show ¬ (16 : Int32) ≤ nI i from nI_ge (b := 16) (a := i) hi (by omega)), nI_1, ap]
      cases ha : anyP (fun k => decide (kwL.getD k [] = nmT tp s)) i
      · rw [if_neg (show ¬ nI (!false).toNat = 0 by decide), if_pos (inb_nI hi (by decide)), clp (by omega), d h2, R i hi, e2, Bool.false_or]
        by_cases hk : kwL.getD i [] = nmT tp s
        · rw [hk, decide_eq_true rfl, if_pos ((lg_cmp_eq _ _).mpr rfl)]
          rfl
        · rw [decide_eq_false hk, if_neg (fun z => hk (nmM_inj okk.lt ok.lt ((pk_lEQ (by omega) (by omega)).mp ((lg_cmp_eq _ _).mp z)).symm))]
          rfl
      · rw [if_pos (show nI (!true).toNat = 0 from rfl), Bool.true_or]
        rfl
  · have h2 : ¬ tkR tp L s = 1 := fun z => h1 (tkQ_R.mpr z)
    rw [if_neg (show ¬ nI (tkR tp L s) = 1 from fun z => h2 ((nI_eq (b := 1) (by omega) (by omega)).mp z)), decide_eq_false h1, Bool.false_and]
    refine sq3 16 (fun i => nI 0) (fun i => nI i) (fun _ => h) (fun self => ?_) (fun self i hi => ?_) (by omega) rfl rfl rfl
    · unfold F_X13_isName_16
      rw [if_pos (show (16 : Int32) ≤ nI 16 by decide)]
      show (if isZ (nI 0) = true then some (nI 0, h) else none) = _
      rw [if_pos (by decide)]
      rfl
    · unfold F_X13_isName_16
      rw [if_neg (show ¬ (16 : Int32) ≤ nI i from nI_ge (b := 16) (a := i) hi (by omega)), nI_1, if_pos (show nI 0 = 0 from rfl)]
      rfl
theorem m_findT {L s : Nat} (T1 : ∀ w, w < σ 2 → h.2.1 159 (8 + w) = lN (nmM (nm w))) (H : TgOk σ nm) (B : MT1 tp L s h) (hk : tkQ tp L s = 1) : f_X13_find 8 (nI (σ 2)) h = some (if ixN nm (σ 2) (nmT tp s) < σ 2 then nI (ixN nm (σ 2) (nmT tp s)) else -1, h) := by
  have h8 := H.1.2.2.1
  obtain ⟨a1, a2, a3⟩ := fst_spec (fun w => decide (nm w = nmT tp s)) (σ 2)
  have ok := nmT_ok (tkQ_K hk)
  have b5 := B.2.2.2.1 (tkQ_R.mp hk)
  have st : ∀ w, w < σ 2 → ∀ self k23 k31, F_X13_find_2 8 (nI (σ 2)) k23 k31 self (nI w) h = if decide (nm w = nmT tp s) = true then k23 (nI w) h else self (nI (w + 1)) h := fun w hw self k23 k31 => by
    have okw := (H.2.2.2.1 w hw).2.2.2.2
    have c1 := okw.m48
    have c2 := ok.m48
    unfold F_X13_find_2
    rw [if_neg (nI_ge hw (by omega)), li_8, nI_add, if_pos (inb_nI (by omega) (by decide)), clp (by omega), T1 w hw, b5, nI_1]
    by_cases h1 : nm w = nmT tp s
    · rw [h1, if_pos ((lg_cmp_eq _ _).mpr rfl), if_pos (decide_eq_true rfl)]
    · rw [if_neg (fun z => h1 (nmM_inj okw.lt ok.lt ((pk_lEQ (by omega) (by omega)).mp ((lg_cmp_eq _ _).mp z)))), if_neg (by rw [decide_eq_false h1]; decide)]
  unfold f_X13_find ixN
  refine sq2 (fst (fun w => decide (nm w = nmT tp s)) (σ 2)) (fun i => nI i) (fun _ => h) (fun self => ?_) (fun self i hi => ?_) (by omega) rfl rfl
  · by_cases h1 : fst (fun w => decide (nm w = nmT tp s)) (σ 2) < σ 2
    · rw [st _ h1, if_pos (a3 h1), if_pos h1]
    · rw [if_neg h1, show fst (fun w => decide (nm w = nmT tp s)) (σ 2) = σ 2 by omega]
      unfold F_X13_find_2
      rw [if_pos (nI_le (Nat.le_refl _) (by omega))]
  · rw [st i (by omega), a2 i hi, if_neg (by decide)]
def mfF (g : Hp) (k s : Nat) : Hp := sI (sI g 155 14 (nI k)) 155 15 (nI s)
theorem mfF_S (g : Hp) (k s : Nat) : Same [155, 163] g (mfF g k s) := (Same.ofI (by decide)).tr (Same.ofI (by decide))
theorem mfF_F (g : Hp) (k s : Nat) : MFr g (mfF g k s) := ⟨fun j hj => by
  simp only [List.mem_cons, List.not_mem_nil, or_false, not_or] at hj
  unfold mfF
  rw [sI_nk1 hj.2.2.2.2.2.2, sI_nk1 hj.2.2.2.2.2.1], fun _ _ => rfl⟩
theorem mfF_15 (g : Hp) (k s : Nat) : (mfF g k s).1 155 15 = nI s := sI_s
theorem mfF_14 (g : Hp) (k s : Nat) : (mfF g k s).1 155 14 = nI k := by unfold mfF; rw [sI_nk1 (by decide)]; exact sI_s
theorem m_badT {L s k : Nat} (B : MT1 tp L s h) : f_X13_bad (nI k) h = some (0, mfF h k s) := by
  unfold f_X13_bad
  rw [lt_s1, show (sI h 155 14 (nI k)).1 155 11 = nI s by rw [sI_nk1 (by decide)]; exact B.2.2.1, lt_s1]
  rfl
theorem m_tx1 {g : Hp} {s n : Nat} (H : TgOk σ nm) (B : MT1 tp 200 s g) (ms : ∀ k, k < 713 → g.1 157 k = nI (σ k)) (T1 : ∀ w, w < σ 2 → g.2.1 159 (8 + w) = lN (nmM (nm w))) (R : ∀ k, k < 16 → g.2.1 160 k = lN (resv.getD k 0)) (hn : n ≤ 24) (k115 : Int32 → Hp → Option (Int32 × Hp)) (self : Int32 → Hp → Option (Int32 × Hp)) : F_X13_text_23 (fun h25 => some ((-1) - (h25.1 155 15), h25)) (fun h26 => some ((-1) - (h26.1 155 15), h26)) k115 self (nI n) g = if tkR tp 200 s = 0 then k115 (nI n) g else if isNm tp 200 s = false then some ((-1) - nI s, mfF g 1 s) else if ixN nm (σ 2) (nmT tp s) < σ 2 then (if n = 24 then some ((-1) - nI s, mfF g 4 s) else bnv (f_X13_next (sI g 163 n (nI (ixN nm (σ 2) (nmT tp s))))) fun h15 => self (nI (n + 1)) h15) else some ((-1) - nI s, mfF g 3 s) := by
  have h8 := H.1.2.2.1
  have rl := tkR_lt (tp := tp) 200 s
  have m2 := ms 2 (by omega)
  unfold F_X13_text_23
  rw [B.2.1]
  by_cases q0 : tkR tp 200 s = 0
  · rw [if_pos (show nI (tkR tp 200 s) = 0 by rw [q0]; rfl), if_pos q0]
  · rw [if_neg (show ¬ nI (tkR tp 200 s) = 0 from fun z => q0 ((nI_eq (b := 0) (by omega) (by omega)).mp z)), if_neg q0, m_isNameT B R, bndS]
    cases hn2 : isNm tp 200 s
    · rw [if_pos (show nI false.toNat = 0 from rfl), if_pos (show false = false from rfl), show f_X13_bad 1 g = some (0, mfF g 1 s) from m_badT (k := 1) B, bndS, if_pos (show (0 : Int32) = 0 from rfl)]
      show some (_, _) = _
      rw [mfF_15]
    · rw [if_neg (show ¬ nI true.toNat = 0 by decide), if_neg (show ¬ true = false by decide)]
      unfold B_X13_text_52
      rw [show (2 : Int32).toNatClampNeg = 2 from lc (n := 2) (by decide), m2, m_findT T1 H B (isNm_1 hn2), bndS]
      by_cases hi : ixN nm (σ 2) (nmT tp s) < σ 2
      · rw [if_pos hi, if_pos hi, if_pos (show (0 : Int32) ≤ nI (ixN nm (σ 2) (nmT tp s)) from nI_le (a := 0) (by omega) (by omega))]
        unfold B_X13_text_77
        by_cases h24 : n = 24
        · rw [if_pos h24, if_pos (show nI n = 24 by rw [h24]; rfl), show f_X13_bad 4 g = some (0, mfF g 4 s) from m_badT (k := 4) B, bndS, if_pos (show (0 : Int32) = 0 from rfl)]
          show some (_, _) = _
          rw [mfF_15]
        · rw [if_neg h24, if_neg (show ¬ nI n = 24 from fun z => h24 ((nI_eq (b := 24) (by omega) (by omega)).mp z))]
          unfold B_X13_text_98
          rw [if_pos (inb_nI (by omega) (by decide)), clp (by omega), lt_s1, nI_1]
      · rw [if_neg hi, if_neg hi, if_neg (show ¬ (0 : Int32) ≤ -1 by decide), show f_X13_bad 3 g = some (0, mfF g 3 s) from m_badT (k := 3) B, bndS, if_pos (show (0 : Int32) = 0 from rfl)]
        show some (_, _) = _
        rw [mfF_15]
/-- what the reference answers -/
def mTx (o : Sum (Nat × Nat) (List Nat)) (S : Nat) (k115 : Int32 → Hp → Option (Int32 × Hp)) (r : Option (Int32 × Hp)) (g' : Hp) : Prop := match o with
  | .inr l => r = k115 (nI l.length) g' ∧ lsI (g'.1 163) l ∧ l.length ≤ 24 ∧ (∀ x ∈ l, x < S) ∧ g'.1 155 14 = nI 0
  | .inl q => r = some ((-1) - nI q.2, g') ∧ g'.1 155 14 = nI q.1
theorem m_textL (T : Tp tp) (H : TgOk σ nm) (k115 : Int32 → Hp → Option (Int32 × Hp)) : ∀ m s l (g : Hp) f, l.length + m = 24 → m + 1 < f → MT1 tp 200 s g → (∀ k, k < 713 → g.1 157 k = nI (σ k)) → (∀ w, w < σ 2 → g.2.1 159 (8 + w) = lN (nmM (nm w))) → (∀ k, k < 16 → g.2.1 160 k = lN (resv.getD k 0)) → lsI (g.1 163) l → (∀ x ∈ l, x < σ 2) → g.1 155 14 = nI 0 → ∃ g', Same [155, 163] g g' ∧ MFr g g' ∧ mTx (txR tp 200 nm (σ 2) (m + 1) s l) (σ 2) k115 (itr2 (F_X13_text_23 (fun h25 => some ((-1) - (h25.1 155 15), h25)) (fun h26 => some ((-1) - (h26.1 155 15), h26)) k115) f (nI l.length) g) g' := by
  have h8 := H.1.2.2.1
  intro m
  induction m with
  | zero =>
    intro s l g f hm hf B ms T1 R r2 r3 h14
    obtain ⟨f, rfl⟩ : ∃ q, f = q + 1 := ⟨f - 1, by omega⟩
    rw [itr2_s, m_tx1 H B ms T1 R (by omega), txR_s]
    by_cases a : tkR tp 200 s = 0
    · rw [if_pos a, if_pos a]
      exact ⟨g, Same.rf, MFr.rf, rfl, r2, by omega, r3, h14⟩
    · rw [if_neg a, if_neg a]
      by_cases b : isNm tp 200 s = false
      · rw [if_pos b, if_pos b]
        exact ⟨_, mfF_S g 1 s, mfF_F g 1 s, rfl, mfF_14 g 1 s⟩
      · rw [if_neg b, if_neg b]
        by_cases c : ixN nm (σ 2) (nmT tp s) < σ 2
        · rw [if_pos c, if_pos c, if_pos (by omega), if_pos (by omega)]
          exact ⟨_, mfF_S g 4 s, mfF_F g 4 s, rfl, mfF_14 g 4 s⟩
        · rw [if_neg c, if_neg c]
          exact ⟨_, mfF_S g 3 s, mfF_F g 3 s, rfl, mfF_14 g 3 s⟩
  | succ m ih =>
    intro s l g f hm hf B ms T1 R r2 r3 h14
    obtain ⟨f, rfl⟩ : ∃ q, f = q + 1 := ⟨f - 1, by omega⟩
    rw [itr2_s, m_tx1 H B ms T1 R (by omega), txR_s]
    by_cases a : tkR tp 200 s = 0
    · rw [if_pos a, if_pos a]
      exact ⟨g, Same.rf, MFr.rf, rfl, r2, by omega, r3, h14⟩
    · rw [if_neg a, if_neg a]
      by_cases b : isNm tp 200 s = false
      · rw [if_pos b, if_pos b]
        exact ⟨_, mfF_S g 1 s, mfF_F g 1 s, rfl, mfF_14 g 1 s⟩
      · rw [if_neg b, if_neg b]
        by_cases c : ixN nm (σ 2) (nmT tp s) < σ 2
        · rw [if_pos c, if_pos c, if_neg (by omega), if_neg (by omega)]
          have S1 : Same [163] g (sI g 163 l.length (nI (ixN nm (σ 2) (nmT tp s)))) := Same.ofI (by decide)
          obtain ⟨g2, e2, u1, u2, u4, u3⟩ := m_nx (L := 200) T (by omega) (B.same S1 (by decide))
          have S2 : Same [155, 163] g g2 := (S1.mono (fun a h1 => by simp only [List.mem_cons, List.not_mem_nil, or_false] at h1 ⊢; omega)).tr (u1.mono (fun a h1 => by simp only [List.mem_cons, List.not_mem_nil, or_false] at h1 ⊢; omega))
          obtain ⟨g3, v1, v2, v3⟩ := ih (tkB tp 200 (tkX tp 200 s)) (l ++ [ixN nm (σ 2) (nmT tp s)]) g2 f (by rw [List.length_append, List.length_singleton]; omega) (by omega) u3 (by rw [(S2 157 (by decide)).1]; exact ms) (by rw [(S2 159 (by decide)).2.1]; exact T1) (by rw [(S2 160 (by decide)).2.1]; exact R) (by
            rw [(u1 163 (by decide)).1]
            refine lsI_snoc (fun j hj => ?_) sI_s
            rw [sI_nk1 (by omega)]; exact r2 j hj) (fun x hx => by
            rcases List.mem_append.mp hx with z | z
            · exact r3 x z
            · rw [List.mem_singleton.mp z]; exact c) (by rw [u4, sI_ne1 (by decide)]; exact h14)
          rw [e2, bnvS]
          rw [List.length_append, List.length_singleton] at v3
          have M1 : MFr g (sI g 163 l.length (nI (ixN nm (σ 2) (nmT tp s)))) := ⟨fun j _ => sI_ne1 (by decide), fun _ _ => rfl⟩
          exact ⟨g3, S2.tr v1, (M1.tr u2).tr v2, v3⟩
        · rw [if_neg c, if_neg c]
          exact ⟨_, mfF_S g 3 s, mfF_F g 3 s, rfl, mfF_14 g 3 s⟩
end TXTC
