section TXTB
variable {tp : List Nat} {σ : Nat → Nat} {nm : Nat → List Nat} {h h' : Hp}
theorem tkK_pos (s : Nat) : 1 ≤ tkK tp s := by
  unfold tkK
  by_cases h1 : tkE tp s - s = 0
  · rw [if_pos h1]
    by_cases h2 : tp.getD s 0 = 59
    · rw [if_pos h2]; omega
    · rw [if_neg h2]; omega
  · rw [if_neg h1]
    by_cases h2 : cnt isDg tp s (tkE tp s - s) = 0
    · rw [if_pos h2]
      by_cases h3 : 6 < tkE tp s - s
      · rw [if_pos h3]; omega
      · rw [if_neg h3]; omega
    · rw [if_neg h2]
      by_cases h3 : cnt isLt tp s (tkE tp s - s) = 0
      · rw [if_pos h3]
        by_cases h4 : 2 < tkE tp s - s
        · rw [if_pos h4]; omega
        · rw [if_neg h4]; omega
      · rw [if_neg h3]; omega
theorem tkQ_0 {L s : Nat} (hq : tkQ tp L s = 0) : tkR tp L s = if tp.length ≤ L then 0 else 4 := by
  unfold tkQ at hq
  by_cases h1 : s < min tp.length L
  · rw [if_pos h1] at hq; have := tkK_pos (tp := tp) s; omega
  · unfold tkR; rw [if_neg h1]
theorem tkQ_n {L s : Nat} (hq : ¬ tkQ tp L s = 0) : tkR tp L s = tkQ tp L s := by
  unfold tkQ at hq ⊢
  unfold tkR
  by_cases h1 : s < min tp.length L
  · rw [if_pos h1, if_pos h1]
  · rw [if_neg h1] at hq; omega
theorem tkQ_lt (L s : Nat) : tkQ tp L s < 5 := by
  unfold tkQ
  by_cases h1 : s < min tp.length L
  · rw [if_pos h1]; exact tkK_lt s
  · rw [if_neg h1]; omega
theorem tkR_lt (L s : Nat) : tkR tp L s < 5 := by
  unfold tkR
  by_cases h1 : s < min tp.length L
  · rw [if_pos h1]; exact tkK_lt s
  · rw [if_neg h1]
    by_cases h2 : tp.length ≤ L
    · rw [if_pos h2]; omega
    · rw [if_neg h2]; omega
theorem isNm_1 {L s : Nat} (hn : isNm tp L s = true) : tkQ tp L s = 1 := by
  unfold isNm at hn
  rw [Bool.and_eq_true, decide_eq_true_eq] at hn
  exact hn.1
theorem c_refuse {L s k : Nat} (B : CT1 tp L s h) : f_X6_refuse (nI k) h = some (0, sI (sI h 4 4 (nI k)) 4 5 (nI s)) := by
  unfold f_X6_refuse
  rw [lt_s1, show (sI h 4 4 (nI k)).1 5 4 = nI s by rw [sI_ne1 (by decide)]; exact B.2.2.1, lt_s1]
/-- what the class answers -/
def cTx (o : Sum (Nat × Nat) (List Nat)) (S : Nat) (r : Option (Int32 × Hp)) (g' : Hp) : Prop := match o with
  | .inr l => r = some (nI l.length, g') ∧ g'.1 153 1 = nI l.length ∧ lsI (g'.1 154) l ∧ l.length ≤ 24 ∧ (∀ x ∈ l, x < S) ∧ g'.1 4 4 = nI 0
  | .inl q => r = some ((-1) - nI q.2, g') ∧ g'.1 4 4 = nI q.1 ∧ q.2 ≤ 1000 ∧ q.1 ≤ 4
def gfF (g : Hp) (k s : Nat) : Hp := sI (sI g 4 4 (nI k)) 4 5 (nI s)
theorem gfF_S (g : Hp) (k s : Nat) : Same [4, 5, 153, 154] g (gfF g k s) := (Same.ofI (by decide)).tr (Same.ofI (by decide))
theorem gfF_5 (g : Hp) (k s : Nat) : (gfF g k s).1 4 5 = nI s := sI_s
theorem gfF_4 (g : Hp) (k s : Nat) : (gfF g k s).1 4 4 = nI k := by unfold gfF; rw [sI_nk1 (by decide)]; exact sI_s
theorem c_toldHere {g : Hp} {s : Nat} (H : TgOk σ nm) (B : CT1 tp 200 s g) (R : TgRep g 7 σ nm) (h41 : g.2.2 4 1 = 7) : f_X6_toldHere 8 (nI (σ 2)) g = if isNm tp 200 s = false then some (-1, gfF g 1 s) else if ixN nm (σ 2) (nmT tp s) < σ 2 then some (nI (ixN nm (σ 2) (nmT tp s)), g) else some (-1, gfF g 3 s) := by
  have h8 := H.1.2.2.1
  unfold f_X6_toldHere
  rw [c_isNameHere B, bndS]
  cases hn : isNm tp 200 s
  · rw [if_pos (show nI false.toNat = 0 from rfl), if_pos rfl, show f_X6_refuse 1 g = some (0, gfF g 1 s) from c_refuse (k := 1) B, bndS]
  · have ix := c_indexOfName (t := 7) (by decide) R.2.1 H h41 B (isNm_1 hn)
    rw [if_neg (show ¬ nI true.toNat = 0 by decide), if_neg (show ¬ true = false by decide), ix, bndS]
    by_cases hi : ixN nm (σ 2) (nmT tp s) < σ 2
    · rw [if_pos hi, if_pos hi, if_pos (show (0 : Int32) ≤ nI (ixN nm (σ 2) (nmT tp s)) from nI_le (a := 0) (by omega) (by omega))]
    · rw [if_neg hi, if_neg hi, if_neg (show ¬ (0 : Int32) ≤ -1 by decide), show f_X6_refuse 3 g = some (0, gfF g 3 s) from c_refuse (k := 3) B, bndS]
theorem c_tx1 {g : Hp} {s n : Nat} (T : Tp tp) (H : TgOk σ nm) (hs : s ≤ tp.length) (B : CT1 tp 200 s g) (R : TgRep g 7 σ nm) (h41 : g.2.2 4 1 = 7) (r1 : g.1 153 1 = nI n) (hn : n ≤ 24) (self : Int32 → Hp → Option (Int32 × Hp)) : F_X6_readText_17 7 153 (fun h14 => some ((-1) - (h14.1 4 5), h14)) (fun h15 => B_X6_readText_95 153 h15) self (nI n) g = if tkR tp 200 s = 0 then some (nI n, g) else if isNm tp 200 s = false then some ((-1) - nI s, gfF g 1 s) else if ixN nm (σ 2) (nmT tp s) < σ 2 then (if n = 24 then some ((-1) - nI s, gfF g 4 s) else bnv (f_X7_put 153 (nI (ixN nm (σ 2) (nmT tp s))) g) fun h9 => bnv (f_X9_advance h9) fun h10 => self (nI (n + 1)) h10) else some ((-1) - nI s, gfF g 3 s) := by
  have t9 := T.1
  have h8 := H.1.2.2.1
  have ql := tkQ_lt (tp := tp) 200 s
  have g72 : g.1 7 2 = nI (σ 2) := R.1.2.2.1
  unfold F_X6_readText_17
  rw [if_neg (show ¬ (200 : Int32) ≤ nI n from nI_ge (b := 200) (by omega) (by omega)), B.2.1]
  by_cases q0 : tkQ tp 200 s = 0
  · rw [if_pos (show nI (tkQ tp 200 s) = 0 by rw [q0]; rfl), tkQ_0 q0]
    show B_X6_readText_95 153 g = _
    have il : f_X9_isTooLong g = some (if tp.length ≤ 200 then 0 else 1, g) := by
      unfold f_X9_isTooLong
      rw [B.1.1, lt_s1, if_pos (show isO 5 2 = true by decide), B.1.2.2.2.1, B.1.2.1]
      by_cases hl : tp.length ≤ 200
      · rw [if_pos (nI_le hl (by omega)), if_pos hl]
      · rw [if_neg (nI_ge (by omega) (by omega)), if_neg hl]
    unfold B_X6_readText_95
    rw [il, bndS]
    by_cases hl : tp.length ≤ 200
    · rw [if_pos hl, if_pos hl, if_pos (show (0 : Int32) = 0 from rfl), if_pos (show 0 = 0 from rfl), r1]
    · have hf : isNm tp 200 s = false := by unfold isNm; rw [decide_eq_false (by omega)]; rfl
      rw [if_neg hl, if_neg hl, if_neg (show ¬ (1 : Int32) = 0 by decide), if_neg (show ¬ 4 = 0 by decide), if_pos hf, show f_X6_refuse 1 g = some (0, gfF g 1 s) from c_refuse (k := 1) B, bndS, gfF_5]
  · rw [if_neg (show ¬ nI (tkQ tp 200 s) = 0 from fun z => q0 ((nI_eq (b := 0) (by omega) (by omega)).mp z)), tkQ_n q0, if_neg q0, g72, c_toldHere H B R h41]
    by_cases hn2 : isNm tp 200 s = false
    · rw [if_pos hn2, if_pos hn2, bndS, if_pos (show (-1 : Int32) < 0 by decide)]
      show some (_, _) = _
      rw [gfF_5]
    · rw [if_neg hn2, if_neg hn2]
      by_cases hi : ixN nm (σ 2) (nmT tp s) < σ 2
      · rw [if_pos hi, if_pos hi, bndS, if_neg (show ¬ nI (ixN nm (σ 2) (nmT tp s)) < 0 from nI_nlt (b := 0) (by omega) (by omega)), r1]
        by_cases h24 : n = 24
        · rw [if_pos h24, if_neg (show ¬ nI n < 24 from nI_nlt (b := 24) (by omega) (by omega)), show f_X6_refuse 4 g = some (0, gfF g 4 s) from c_refuse (k := 4) B, bndS, if_pos (show (0 : Int32) = 0 from rfl)]
          show some (_, _) = _
          rw [gfF_5]
        · rw [if_neg h24, if_pos (show nI n < 24 from nI_lt (b := 24) (by omega) (by omega))]
          unfold B_X6_readText_76
          rw [nI_1]
      · rw [if_neg hi, if_neg hi, bndS, if_pos (show (-1 : Int32) < 0 by decide)]
        show some (_, _) = _
        rw [gfF_5]
theorem txR_s (L S m s : Nat) (l : List Nat) : txR tp L nm S (m + 1) s l = if tkR tp L s = 0 then .inr l else if isNm tp L s = false then .inl (1, s) else if ixN nm S (nmT tp s) < S then (if l.length = 24 then .inl (4, s) else txR tp L nm S m (tkB tp L (tkX tp L s)) (l ++ [ixN nm S (nmT tp s)])) else .inl (3, s) := rfl
theorem lsI_snoc {f : Nat → Int32} {l : List Nat} {x : Nat} (h1 : lsI f l) (h2 : f l.length = nI x) : lsI f (l ++ [x]) := fun j hj => by
  rw [List.length_append, List.length_singleton] at hj
  by_cases h3 : j = l.length
  · subst h3
    rw [h2]
    simp [List.getD_eq_getElem?_getD]
  · rw [h1 j (by omega)]
    simp [List.getD_eq_getElem?_getD, List.getElem?_append_left (show j < l.length by omega)]
theorem c_textL (T : Tp tp) (H : TgOk σ nm) : ∀ m s l (g : Hp) f, l.length + m = 24 → m + 1 < f → s ≤ tp.length → CT1 tp 200 s g → TgRep g 7 σ nm → g.2.2 4 1 = 7 → g.1 153 1 = nI l.length → lsI (g.1 154) l → (∀ x ∈ l, x < σ 2) → g.1 4 4 = nI 0 → ∃ g', Same [4, 5, 153, 154] g g' ∧ g'.2.1 = g.2.1 ∧ cTx (txR tp 200 nm (σ 2) (m + 1) s l) (σ 2) (itr2 (F_X6_readText_17 7 153 (fun h14 => some ((-1) - (h14.1 4 5), h14)) (fun h15 => B_X6_readText_95 153 h15)) f (nI l.length) g) g' := by
  have t9 := T.1
  have h8 := H.1.2.2.1
  intro m
  induction m with
  | zero =>
    intro s l g f hm hf hs B R h41 r1 r2 r3 h44
    obtain ⟨f, rfl⟩ : ∃ q, f = q + 1 := ⟨f - 1, by omega⟩
    rw [itr2_s, c_tx1 T H hs B R h41 r1 (by omega), txR_s]
    by_cases a : tkR tp 200 s = 0
    · rw [if_pos a, if_pos a]
      exact ⟨g, Same.rf, rfl, rfl, r1, r2, by omega, r3, h44⟩
    · rw [if_neg a, if_neg a]
      by_cases b : isNm tp 200 s = false
      · rw [if_pos b, if_pos b]
        exact ⟨_, gfF_S g 1 s, rfl, rfl, gfF_4 g 1 s, by show s ≤ 1000; omega, by show 1 ≤ 4; omega⟩
      · rw [if_neg b, if_neg b]
        by_cases c : ixN nm (σ 2) (nmT tp s) < σ 2
        · rw [if_pos c, if_pos c, if_pos (by omega), if_pos (by omega)]
          exact ⟨_, gfF_S g 4 s, rfl, rfl, gfF_4 g 4 s, by show s ≤ 1000; omega, by show 4 ≤ 4; omega⟩
        · rw [if_neg c, if_neg c]
          exact ⟨_, gfF_S g 3 s, rfl, rfl, gfF_4 g 3 s, by show s ≤ 1000; omega, by show 3 ≤ 4; omega⟩
  | succ m ih =>
    intro s l g f hm hf hs B R h41 r1 r2 r3 h44
    obtain ⟨f, rfl⟩ : ∃ q, f = q + 1 := ⟨f - 1, by omega⟩
    rw [itr2_s, c_tx1 T H hs B R h41 r1 (by omega), txR_s]
    by_cases a : tkR tp 200 s = 0
    · rw [if_pos a, if_pos a]
      exact ⟨g, Same.rf, rfl, rfl, r1, r2, by omega, r3, h44⟩
    · rw [if_neg a, if_neg a]
      by_cases b : isNm tp 200 s = false
      · rw [if_pos b, if_pos b]
        exact ⟨_, gfF_S g 1 s, rfl, rfl, gfF_4 g 1 s, by show s ≤ 1000; omega, by show 1 ≤ 4; omega⟩
      · rw [if_neg b, if_neg b]
        by_cases c : ixN nm (σ 2) (nmT tp s) < σ 2
        · rw [if_pos c, if_pos c, if_neg (by omega), if_neg (by omega)]
          have rp := row_put (r := 153) (n := l.length) (h := g) (v := nI (ixN nm (σ 2) (nmT tp s))) r1 (by rw [aln154]; omega) (by rw [aln154]; decide)
          have S1 : Same [153, 154] g (sI (sI g (153 + 1) l.length (nI (ixN nm (σ 2) (nmT tp s)))) 153 1 (nI (l.length + 1))) := (Same.ofI (by decide)).tr (Same.ofI (by decide))
          obtain ⟨g2, e2, u1, u2, u3⟩ := c_adv (L := 200) T (by omega) hs (B.same S1 (by decide))
          have S2 : Same [4, 5, 153, 154] g g2 := (S1.mono (fun a h1 => by simp only [List.mem_cons, List.not_mem_nil, or_false] at h1 ⊢; omega)).tr (u1.mono (fun a h1 => by simp only [List.mem_cons, List.not_mem_nil, or_false] at h1 ⊢; omega))
          have bx := tkB_le tp 200 (tkX tp 200 s)
          obtain ⟨g3, v1, v2, v3⟩ := ih (tkB tp 200 (tkX tp 200 s)) (l ++ [ixN nm (σ 2) (nmT tp s)]) g2 f (by rw [List.length_append, List.length_singleton]; omega) (by omega) bx.1 u3 (R.kept (fun a h1 h2 => by
            have := S2 a (by simp only [List.mem_cons, List.not_mem_nil, or_false]; omega)
            exact ⟨this.1, this.2.1⟩)) (by rw [(u1 4 (by decide)).2.2, (S1 4 (by decide)).2.2]; exact h41) (by rw [(u1 153 (by decide)).1, sI_s, List.length_append, List.length_singleton]) (by
            rw [(u1 154 (by decide)).1]
            refine lsI_snoc (fun j hj => ?_) ?_
            · rw [sI_ne1 (by decide), sI_nk1 (by omega)]; exact r2 j hj
            · rw [sI_ne1 (by decide)]; exact sI_s) (fun x hx => by
            rcases List.mem_append.mp hx with z | z
            · exact r3 x z
            · rw [List.mem_singleton.mp z]; exact c) (by rw [(u1 4 (by decide)).1, (S1 4 (by decide)).1]; exact h44)
          rw [rp, bnvS, e2, bnvS]
          rw [List.length_append, List.length_singleton] at v3
          exact ⟨g3, S2.tr v1, v2.trans u2, v3⟩
        · rw [if_neg c, if_neg c]
          exact ⟨_, gfF_S g 3 s, rfl, rfl, gfF_4 g 3 s, by show s ≤ 1000; omega, by show 3 ≤ 4; omega⟩
end TXTB
