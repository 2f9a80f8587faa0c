section TXTA
variable {tp : List Nat} {σ : Nat → Nat} {nm : Nat → List Nat} {h h' : Hp}
/-! the reserved words -/
def kwL : List (List Nat) := [[19, 15, 18, 20], [2, 5, 7, 9, 14, 19], [5, 14, 4, 19], [13, 1, 18, 11], [6, 15, 12, 12, 15, 23], [23, 15, 18, 4], [2, 5, 1, 20, 19], [23, 5, 9, 7, 8, 19], [3, 15, 19, 20, 19], [9, 4, 12, 5], [18, 5, 1, 4, 19], [19, 5, 20, 19], [3, 12, 5, 1, 18, 19], [20, 21, 18, 14, 19], [5, 4, 9, 3, 20], [3, 12, 5, 18, 11]]
theorem kwL_c : ∀ i, i < 16 → kwC.getD i 0 = nI (nmC (kwL.getD i [])) := by decide
theorem kwL_m : ∀ i, i < 16 → resv.getD i 0 = nmM (kwL.getD i []) := by decide
theorem kwL_n : ∀ i, i < 16 → 1 ≤ (kwL.getD i []).length ∧ (kwL.getD i []).length ≤ 6 ∧ (kwL.getD i []).all (fun x => decide (1 ≤ x) && decide (x ≤ 26)) = true := by decide
theorem kwL_ok {i : Nat} (hi : i < 16) : okNm (kwL.getD i []) := by
  obtain ⟨a, b, c⟩ := kwL_n i hi
  refine ⟨a, b, fun x hx => ?_⟩
  have := List.all_eq_true.mp c x hx
  rw [Bool.and_eq_true, decide_eq_true_eq, decide_eq_true_eq] at this
  exact this
/-- is it reserved -/
def rsvB (l : List Nat) : Bool := anyP (fun i => decide (kwL.getD i [] = l)) 16
theorem kw_eq {l : List Nat} (hl : okNm l) {i : Nat} (hi : i < 16) : (kwC.getD i 0 = nI (nmC l)) = (kwL.getD i [] = l) := by
  have a := (kwL_ok hi).c30
  have b := hl.c30
  rw [kwL_c i hi]
  refine propext ⟨fun z => ?_, fun z => by rw [z]⟩
  exact nmC_inj (kwL_ok hi) hl ((nI_eq (by omega) (by omega)).mp z)
theorem kwId_0 {l : List Nat} (hl : okNm l) : (kwId (nI (nmC l)) = 0) = (rsvB l = false) := by
  obtain ⟨a1, a2, a3⟩ := fst_spec (fun i => decide (kwC.getD i 0 = nI (nmC l))) 16
  unfold kwId rsvB
  by_cases h1 : fst (fun i => decide (kwC.getD i 0 = nI (nmC l))) 16 < 16
  · rw [if_pos h1]
    have q := of_decide_eq_true (a3 h1)
    rw [kw_eq hl h1] at q
    have : anyP (fun i => decide (kwL.getD i [] = l)) 16 = true := anyP_t.mpr ⟨_, h1, decide_eq_true q⟩
    rw [this]
    exact propext ⟨fun z => by omega, fun z => by cases z⟩
  · rw [if_neg h1]
    refine propext ⟨fun _ => Bool.eq_false_iff.mpr (fun z => ?_), fun _ => rfl⟩
    obtain ⟨i, q1, q2⟩ := anyP_t.mp z
    have q3 := a2 i (by omega)
    rw [decide_eq_false_iff_not, kw_eq hl q1] at q3
    exact q3 (of_decide_eq_true q2)
/-- the name of the word at s; is it a NAME -/
def nmT (tp : List Nat) (s : Nat) : List Nat := tkN tp s (tkE tp s - s)
theorem nmT_ok {s : Nat} (hk : tkK tp s = 1) : okNm (nmT tp s) := by
  obtain ⟨a, b, c⟩ := tkK_1 hk
  unfold nmT
  refine ⟨by rw [tkN_len]; omega, by rw [tkN_len]; exact b, tkN_ok _ (fun j hj => ?_)⟩
  have := cnt_0 (f := isDg) (tp := tp) (s := s) _ a j hj
  rcases lw _ (tk_in (tp := tp) (s := s) hj) with ⟨x, y⟩ | ⟨x, y⟩
  · exact x
  · rw [this] at y; cases y
def isNm (tp : List Nat) (L s : Nat) : Bool := decide (tkQ tp L s = 1) && !rsvB (nmT tp s)
theorem tkQ_R {L s : Nat} : (tkQ tp L s = 1) = (tkR tp L s = 1) := by
  unfold tkQ tkR
  by_cases h1 : s < min tp.length L
  · rw [if_pos h1, if_pos h1]
  · rw [if_neg h1, if_neg h1]
    by_cases h2 : tp.length ≤ L
    · rw [if_pos h2]
    · rw [if_neg h2]; simp
theorem tkQ_K {L s : Nat} (hq : tkQ tp L s = 1) : tkK tp s = 1 := by
  unfold tkQ at hq
  by_cases h1 : s < min tp.length L
  · rw [if_pos h1] at hq; exact hq
  · rw [if_neg h1] at hq; omega
/-- the class at a token -/
def CT1 (tp : List Nat) (L s : Nat) (h : Hp) : Prop := CTk tp L (tkX tp L s) h ∧ h.1 5 3 = nI (tkQ tp L s) ∧ h.1 5 4 = nI s ∧ (tkQ tp L s = 1 → h.1 5 5 = nI (nmC (nmT tp s)) ∧ h.2.2 5 6 = kwId (nI (nmC (nmT tp s)))) ∧ (tkQ tp L s = 2 → h.1 5 5 = nI (tkV tp s (tkE tp s - s))) ∧ (tkQ tp L s ≠ 1 → h.2.2 5 6 = 0)
theorem tkB_le (tp : List Nat) (L p : Nat) : tkB tp L p ≤ tp.length ∧ tkB tp L p ≤ L := by unfold tkB; omega
theorem tkX_le {L s : Nat} (hs : s ≤ tp.length) : tkX tp L s ≤ tp.length + 1 := by
  unfold tkX
  have : tkE tp s ≤ tp.length := (to1_b (f := isWd) hs).2
  by_cases h1 : s < min tp.length L
  · rw [if_pos h1]; omega
  · rw [if_neg h1]; omega
theorem c_adv {L s : Nat} (T : Tp tp) (hL : L ≤ 1000) (hs : s ≤ tp.length) (B : CT1 tp L s h) : ∃ h', f_X9_advance h = some h' ∧ Same [5] h h' ∧ h'.2.1 = h.2.1 ∧ CT1 tp L (tkB tp L (tkX tp L s)) h' := by
  have t9 := T.1
  have := tkX_le (tp := tp) (L := L) hs
  obtain ⟨h', e, s1, s2, s3, s4, s5, s6, s7, s8⟩ := c_advance (p := tkX tp L s) T hL (by omega) B.1
  exact ⟨h', e, s1, s2, s3, s4, s5, s6, s7, s8⟩
theorem CT1.same {L s : Nat} (B : CT1 tp L s h) {X : List Nat} (q : Same X h h') (hX : 2 ∉ X ∧ 3 ∉ X ∧ 5 ∉ X) : CT1 tp L s h' := by
  obtain ⟨⟨a0, a1, a2, a3, a4⟩, b, c, d, e, f⟩ := B
  have q5 := q 5 hX.2.2
  unfold CT1 CTk
  rw [q5.1, q5.2.2, (q 2 hX.1).1, (q 3 hX.2.1).1]
  exact ⟨⟨a0, a1, a2, a3, a4⟩, b, c, d, e, f⟩
theorem c_isNameHere {L s : Nat} (B : CT1 tp L s h) : f_X6_isNameHere h = some (nI (isNm tp L s).toNat, h) := by
  obtain ⟨-, b, c, d, e, f⟩ := B
  have ql : tkQ tp L s < 5 := by
    unfold tkQ
    by_cases h1 : s < min tp.length L
    · rw [if_pos h1]; exact tkK_lt s
    · rw [if_neg h1]; omega
  unfold f_X6_isNameHere isNm
  by_cases h1 : tkQ tp L s = 1
  · have ok := nmT_ok (tkQ_K h1)
    rw [b, if_pos (by rw [h1]; rfl), (d h1).2, lt_s1, if_pos (kwId_kw _), decide_eq_true h1, Bool.true_and]
    have k0 := kwId_0 ok
    cases hr : rsvB (nmT tp s)
    · rw [if_pos (k0.mpr hr)]; rfl
    · rw [if_neg (fun z => by have := k0.mp z; rw [hr] at this; cases this)]; rfl
  · rw [b, if_neg (show ¬ nI (tkQ tp L s) = 1 from fun z => h1 ((nI_eq (b := 1) (by omega) (by omega)).mp z)), decide_eq_false h1]
    rfl
/-- which SAYING has the name -/
def ixN (nm : Nat → List Nat) (n : Nat) (l : List Nat) : Nat := fst (fun w => decide (nm w = l)) n
theorem c_indexOfName {t L s : Nat} (ht : isO 8 t = true) (T1 : ∀ w, w < σ 2 → h.1 (t + 1) (8 + w) = nI (nmC (nm w))) (H : TgOk σ nm) (h4 : h.2.2 4 1 = t) (B : CT1 tp L s h) (hk : tkQ tp L s = 1) : f_X6_indexOfName 8 (nI (σ 2)) h = some (if ixN nm (σ 2) (nmT tp s) < σ 2 then nI (ixN nm (σ 2) (nmT tp s)) else -1, h) := by
  have h8 := H.1.2.2.1
  obtain ⟨a1, a2, a3⟩ := fst_spec (fun w => decide (nm w = nmT tp s)) (σ 2)
  have ok := nmT_ok (tkQ_K hk)
  have b5 := (B.2.2.2.1 hk).1
  have st : ∀ w, w < σ 2 → ∀ self k28 k36, F_X6_indexOfName_2 8 (nI (σ 2)) k28 k36 self (nI w) h = if decide (nm w = nmT tp s) = true then k28 (nI w) h else self (nI (w + 1)) h := fun w hw self k28 k36 => by
    have okw := (H.2.2.2.1 w hw).2.2.2.2
    have e1 := T1 w hw
    have c1 := okw.c30
    have c2 := ok.c30
    unfold F_X6_indexOfName_2
    rw [if_neg (nI_ge hw (by omega)), h4, lt_s1, if_pos ht, li_8, nI_add, if_pos (inb_nI (by omega) (by decide)), clp (by omega), e1, b5, nI_1]
    by_cases h1 : nm w = nmT tp s
    · rw [h1, if_pos rfl, if_pos (decide_eq_true rfl)]
    · rw [if_neg (fun z => h1 (nmC_inj okw ok ((nI_eq (by omega) (by omega)).mp z))), if_neg (by rw [decide_eq_false h1]; decide)]
  unfold f_X6_indexOfName ixN
  refine sq2 (fst (fun w => decide (nm w = nmT tp s)) (σ 2)) (fun i => nI i) (fun _ => h) (fun self => ?_) (fun self i hi => ?_) (by omega) rfl rfl
  · by_cases h1 : fst (fun w => decide (nm w = nmT tp s)) (σ 2) < σ 2
    · rw [st _ h1, if_pos (a3 h1), if_pos h1]
    · rw [if_neg h1, show fst (fun w => decide (nm w = nmT tp s)) (σ 2) = σ 2 by omega]
      unfold F_X6_indexOfName_2
      rw [if_pos (nI_le (Nat.le_refl _) (by omega))]
  · rw [st i (by omega), a2 i hi, if_neg (by decide)]
/-! what comes of a TEXT: a fault and its place, or the row -/
def txR (tp : List Nat) (L : Nat) (nm : Nat → List Nat) (S : Nat) : Nat → Nat → List Nat → Sum (Nat × Nat) (List Nat)
  | 0, s, _ => .inl (4, s)
  | m + 1, s, l => if tkR tp L s = 0 then .inr l else if isNm tp L s = false then .inl (1, s) else if ixN nm S (nmT tp s) < S then (if l.length = 24 then .inl (4, s) else txR tp L nm S m (tkB tp L (tkX tp L s)) (l ++ [ixN nm S (nmT tp s)])) else .inl (3, s)
end TXTA
