section UNGB
variable {tp : List Nat} {ρ σ : Nat → Nat} {nS nK nm : Nat → List Nat} {h h' : Hp}
/-! NAMES told before, by where they stand -/
theorem c_ixName {t base n L s : Nat} {f : Nat → List Nat} (ht : isO 8 t = true) (T1 : ∀ w, w < n → h.1 (t + 1) (base + w) = nI (nmC (f w))) (ok1 : ∀ w, w < n → okNm (f w)) (hn : base + n ≤ 16) (h4 : h.2.2 4 1 = t) (B : CT1 tp L s h) (hk : tkQ tp L s = 1) : f_X6_indexOfName (nI base) (nI n) h = some (if ixN f n (nmT tp s) < n then nI (ixN f n (nmT tp s)) else -1, h) := by
  obtain ⟨a1, a2, a3⟩ := fst_spec (fun w => decide (f w = nmT tp s)) n
  have ok := nmT_ok (tkQ_K hk)
  have b5 := (B.2.2.2.1 hk).1
  have st : ∀ w, w < n → ∀ self k28 k36, F_X6_indexOfName_2 (nI base) (nI n) k28 k36 self (nI w) h = if decide (f w = nmT tp s) = true then k28 (nI w) h else self (nI (w + 1)) h := fun w hw self k28 k36 => by
    have okw := ok1 w hw
    have c1 := okw.c30
    have c2 := ok.c30
    unfold F_X6_indexOfName_2
    rw [if_neg (nI_ge hw (by omega)), h4, lt_s1, if_pos ht, nI_add, if_pos (inb_nI (by omega) (by decide)), clp (by omega), T1 w hw, b5, nI_1]
    by_cases h1 : f w = nmT tp s
    · rw [h1, if_pos rfl, if_pos (decide_eq_true rfl)]
    · rw [if_neg (fun z => h1 (nmC_inj okw ok ((nI_eq (by omega) (by omega)).mp z))), if_neg (by rw [decide_eq_false h1]; decide)]
  unfold f_X6_indexOfName ixN
  refine sq2 (fst (fun w => decide (f w = nmT tp s)) n) (fun i => nI i) (fun _ => h) (fun self => ?_) (fun self i hi => ?_) (by omega) rfl rfl
  · by_cases h1 : fst (fun w => decide (f w = nmT tp s)) n < n
    · rw [st _ h1, if_pos (a3 h1), if_pos h1]
    · rw [if_neg h1, show fst (fun w => decide (f w = nmT tp s)) n = n by omega]
      unfold F_X6_indexOfName_2
      rw [if_pos (nI_le (Nat.le_refl _) (by omega))]
  · rw [st i (by omega), a2 i hi, if_neg (by decide)]
theorem m_ixName {base n L s : Nat} {f : Nat → List Nat} (T1 : ∀ w, w < n → h.2.1 159 (base + w) = lN (nmM (f w))) (ok1 : ∀ w, w < n → okNm (f w)) (hn : base + n ≤ 32) (B : MT1 tp L s h) (hk : tkQ tp L s = 1) : f_X13_find (nI base) (nI n) h = some (if ixN f n (nmT tp s) < n then nI (ixN f n (nmT tp s)) else -1, h) := by
  obtain ⟨a1, a2, a3⟩ := fst_spec (fun w => decide (f w = nmT tp s)) n
  have ok := nmT_ok (tkQ_K hk)
  have b5 := B.2.2.2.1 (tkQ_R.mp hk)
  have st : ∀ w, w < n → ∀ self k23 k31, F_X13_find_2 (nI base) (nI n) k23 k31 self (nI w) h = if decide (f w = nmT tp s) = true then k23 (nI w) h else self (nI (w + 1)) h := fun w hw self k23 k31 => by
    have okw := ok1 w hw
    have c1 := okw.m48
    have c2 := ok.m48
    unfold F_X13_find_2
    rw [if_neg (nI_ge hw (by omega)), nI_add, if_pos (inb_nI (by omega) (by decide)), clp (by omega), T1 w hw, b5, nI_1]
    by_cases h1 : f w = nmT tp s
    · rw [h1, if_pos ((lg_cmp_eq _ _).mpr rfl), if_pos (decide_eq_true rfl)]
    · rw [if_neg (fun z => h1 (nmM_inj okw.lt ok.lt ((pk_lEQ (by omega) (by omega)).mp ((lg_cmp_eq _ _).mp z)))), if_neg (by rw [decide_eq_false h1]; decide)]
  unfold f_X13_find ixN
  refine sq2 (fst (fun w => decide (f w = nmT tp s)) n) (fun i => nI i) (fun _ => h) (fun self => ?_) (fun self i hi => ?_) (by omega) rfl rfl
  · by_cases h1 : fst (fun w => decide (f w = nmT tp s)) n < n
    · rw [st _ h1, if_pos (a3 h1), if_pos h1]
    · rw [if_neg h1, show fst (fun w => decide (f w = nmT tp s)) n = n by omega]
      unfold F_X13_find_2
      rw [if_pos (nI_le (Nat.le_refl _) (by omega))]
  · rw [st i (by omega), a2 i hi, if_neg (by decide)]
theorem ixN_lt {f : Nat → List Nat} {n : Nat} {l : List Nat} : ixN f n l ≤ n := (fst_spec _ n).1
theorem c_told {t base n L s : Nat} {f : Nat → List Nat} (ht : isO 8 t = true) (T1 : ∀ w, w < n → h.1 (t + 1) (base + w) = nI (nmC (f w))) (ok1 : ∀ w, w < n → okNm (f w)) (hn : base + n ≤ 16) (h4 : h.2.2 4 1 = t) (B : CT1 tp L s h) : f_X6_toldHere (nI base) (nI n) h = if isNm tp L s = false then some (-1, gfF h 1 s) else if ixN f n (nmT tp s) < n then some (nI (ixN f n (nmT tp s)), h) else some (-1, gfF h 3 s) := by
  unfold f_X6_toldHere
  rw [c_isNameHere B, bndS]
  cases hn2 : isNm tp L s
  · rw [if_pos (show nI false.toNat = 0 from rfl), if_pos rfl, show f_X6_refuse 1 h = some (0, gfF h 1 s) from c_refuse (k := 1) B, bndS]
  · have ix := c_ixName ht T1 ok1 hn h4 B (isNm_1 hn2)
    rw [if_neg (show ¬ nI true.toNat = 0 by decide), if_neg (show ¬ true = false by decide), ix, bndS]
    by_cases hi : ixN f n (nmT tp s) < n
    · rw [if_pos hi, if_pos hi, if_pos (show (0 : Int32) ≤ nI (ixN f n (nmT tp s)) from nI_le (a := 0) (by omega) (by omega))]
    · rw [if_neg hi, if_neg hi, if_neg (show ¬ (0 : Int32) ≤ -1 by decide), show f_X6_refuse 3 h = some (0, gfF h 3 s) from c_refuse (k := 3) B, bndS]
theorem m_takesName {base n L s : Nat} {f : Nat → List Nat} (T1 : ∀ w, w < n → h.2.1 159 (base + w) = lN (nmM (f w))) (ok1 : ∀ w, w < n → okNm (f w)) (hn : base + n ≤ 32) (R : ∀ k, k < 16 → h.2.1 160 k = lN (resv.getD k 0)) (B : MT1 tp L s h) : f_X13_takesName (nI base) (nI n) h = if isNm tp L s = false then some (0, mfF h 1 s) else if ixN f n (nmT tp s) < n then (bnv (f_X13_next (sI h 155 17 (nI (ixN f n (nmT tp s))))) fun h8 => some (1, h8)) else some (0, mfF (sI h 155 17 (-1)) 3 s) := by
  unfold f_X13_takesName
  rw [m_isNameT B R, bndS]
  cases hn2 : isNm tp L s
  · rw [if_pos (show nI false.toNat = 0 from rfl), if_pos rfl, show f_X13_bad 1 h = some (0, mfF h 1 s) from m_badT (k := 1) B, bndS, if_pos (show isZ 0 = true by decide)]
  · have ix := m_ixName T1 ok1 hn B (isNm_1 hn2)
    rw [if_neg (show ¬ nI true.toNat = 0 by decide), if_neg (show ¬ true = false by decide), ix, bndS, lt_s1, sI_s]
    by_cases hi : ixN f n (nmT tp s) < n
    · rw [if_pos hi, if_pos hi, if_pos (show (0 : Int32) ≤ nI (ixN f n (nmT tp s)) from nI_le (a := 0) (by omega) (by omega))]
    · have B2 : MT1 tp L s (sI h 155 17 (-1)) := by
        obtain ⟨⟨q, q1, ⟨m1, m2, m3, m4⟩, q3⟩, b, c, d, e, g⟩ := B
        exact ⟨⟨q, q1, ⟨by rw [sI_nk1 (by decide)]; exact m1, by rw [sI_nk1 (by decide)]; exact m2, by rw [sI_nk1 (by decide)]; exact m3, by rw [sI_ne1' (by decide)]; exact m4⟩, q3⟩, by rw [sI_nk1 (by decide)]; exact b, by rw [sI_nk1 (by decide)]; exact c, d, by rw [sI_nk1 (by decide)]; exact e, by rw [sI_nk1 (by decide)]; exact g⟩
      rw [if_neg hi, if_neg hi, if_neg (show ¬ (0 : Int32) ≤ -1 by decide), show f_X13_bad 3 (sI h 155 17 (-1)) = some (0, mfF (sI h 155 17 (-1)) 3 s) from m_badT (k := 3) B2, bndS, if_pos (show isZ 0 = true by decide)]
/-! reserved words -/
def kwT (tp : List Nat) (L s : Nat) : Nat := if tkQ tp L s = 1 then kwId (nI (nmC (nmT tp s))) else 0
theorem c_kw {L s : Nat} (B : CT1 tp L s h) : h.2.2 5 6 = kwT tp L s := by
  unfold kwT
  by_cases h1 : tkQ tp L s = 1
  · rw [if_pos h1]; exact (B.2.2.2.1 h1).2
  · rw [if_neg h1]; exact B.2.2.2.2.2 h1
theorem kwL_ne : ∀ i, i < 16 → ∀ j, j < 16 → kwL.getD i [] = kwL.getD j [] → i = j := by decide +kernel
theorem kwId_at {l : List Nat} (hl : okNm l) {i : Nat} (hi : i < 16) : (kwId (nI (nmC l)) = 300 + i) = (kwL.getD i [] = l) := by
  obtain ⟨a1, a2, a3⟩ := fst_spec (fun i => decide (kwC.getD i 0 = nI (nmC l))) 16
  unfold kwId
  by_cases h1 : fst (fun i => decide (kwC.getD i 0 = nI (nmC l))) 16 < 16
  · rw [if_pos h1]
    have q := of_decide_eq_true (a3 h1)
    rw [kw_eq hl h1] at q
    refine propext ⟨fun z => ?_, fun z => ?_⟩
    · rw [show fst (fun i => decide (kwC.getD i 0 = nI (nmC l))) 16 = i by omega] at q
      exact q
    · rw [kwL_ne _ h1 i hi (q.trans z.symm)]
  · rw [if_neg h1]
    refine propext ⟨fun z => by omega, fun z => ?_⟩
    have q3 := a2 i (by omega)
    rw [decide_eq_false_iff_not, kw_eq hl hi] at q3
    exact absurd z q3
theorem m_isWordT {L s i : Nat} (hi : i < 16) (B : MT1 tp L s h) : f_X13_isWord (lN (nmM (kwL.getD i []))) h = some (nI (decide (kwT tp L s = 300 + i)).toNat, h) := by
  have rl := tkR_lt (tp := tp) L s
  unfold f_X13_isWord kwT
  rw [B.2.1]
  by_cases h1 : tkQ tp L s = 1
  · have h2 : tkR tp L s = 1 := tkQ_R.mp h1
    have ok := nmT_ok (tkQ_K h1)
    have okk := kwL_ok hi
    have c1 := ok.m48
    have c2 := okk.m48
    have ka := kwId_at ok hi
    rw [if_pos (show nI (tkR tp L s) = 1 by rw [h2]; rfl), B.2.2.2.1 h2, if_pos h1]
    by_cases h3 : kwL.getD i [] = nmT tp s
    · rw [decide_eq_true (ka.mpr h3), h3, if_pos ((lg_cmp_eq _ _).mpr rfl)]
      rfl
    · rw [decide_eq_false (fun z => h3 (ka.mp z)), if_neg (fun z => h3 (nmM_inj okk.lt ok.lt ((pk_lEQ (by omega) (by omega)).mp ((lg_cmp_eq _ _).mp z)).symm))]
      rfl
  · have h2 : ¬ tkR tp L s = 1 := fun z => h1 (tkQ_R.mpr z)
    rw [if_neg (show ¬ nI (tkR tp L s) = 1 from fun z => h2 ((nI_eq (b := 1) (by omega) (by omega)).mp z)), if_neg h1, decide_eq_false (show ¬ 0 = 300 + i by omega)]
    rfl
end UNGB
