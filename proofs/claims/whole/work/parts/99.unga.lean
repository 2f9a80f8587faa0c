section UNGA
variable {tp : List Nat} {ρ σ : Nat → Nat} {nS nK nm : Nat → List Nat} {h h' : Hp}
/-! a TONGUE while it is read: ρ its 437 numbers, the NAMES of SORTS, MARKS, SAYINGS -/
/-- the class's, at t -/
def RgC (h : Hp) (t : Nat) (ρ : Nat → Nat) (nS nK nm : Nat → List Nat) : Prop :=
  (h.1 t 0 = nI (ρ 0) ∧ h.1 t 1 = nI (ρ 1) ∧ h.1 t 2 = nI (ρ 2) ∧ h.1 (t + 2) 0 = nI (ρ 3) ∧ h.1 (t + 2) 1 = nI (ρ 4)) ∧
  ((∀ i, i < ρ 0 → h.1 (t + 1) i = nI (nmC (nS i))) ∧ (∀ i, i < ρ 1 → h.1 (t + 1) (5 + i) = nI (nmC (nK i))) ∧ ∀ w, w < ρ 2 → h.1 (t + 1) (8 + w) = nI (nmC (nm w))) ∧
  (∀ b, 1 ≤ b → b ≤ 5 → h.1 (t + 3) b = nI (ρ (431 + b))) ∧
  ((∀ k, k < 5 → h.2.1 (t + 4) k = lN (ahd ρ k)) ∧ h.2.1 t 7 = lN (ens ρ)) ∧
  (∀ w, w < ρ 2 → h.1 (t + 5) w = nI (ρ (40 + w)) ∧ h.1 (t + 6) w = nI (ρ (48 + w)) ∧ h.1 (t + 7) w = nI (ρ (56 + w))) ∧
  ((∀ w, w < 8 → h.1 (t + 8) w = nI (rds ρ w)) ∧ h.1 t 11 = nI (idl ρ)) ∧
  (∀ i, i < 320 → h.1 (t + 9) i = nI (mk ρ i))
/-- the reference's -/
def RgM (h : Hp) (ρ : Nat → Nat) (nS nK nm : Nat → List Nat) : Prop :=
  (∀ k, k < 437 → h.1 158 k = nI (ρ k)) ∧ (∀ i, i < ρ 0 → h.2.1 159 (16 + i) = lN (nmM (nS i))) ∧ (∀ i, i < ρ 1 → h.2.1 159 (21 + i) = lN (nmM (nK i))) ∧ ∀ w, w < ρ 2 → h.2.1 159 (24 + w) = lN (nmM (nm w))
/-- as it may be -/
def RgOk (ρ : Nat → Nat) (nS nK nm : Nat → List Nat) : Prop := TgOk ρ nm ∧ (∀ i, i < ρ 0 → okNm (nS i)) ∧ ∀ i, i < ρ 1 → okNm (nK i)
theorem RgC.same {t : Nat} (R : RgC h t ρ nS nK nm) {X : List Nat} (q : Same X h h') (hX : ∀ a, t ≤ a → a ≤ t + 9 → a ∉ X) : RgC h' t ρ nS nK nm := by
  unfold RgC at R ⊢
  rw [(q t (hX t (by omega) (by omega))).1, (q t (hX t (by omega) (by omega))).2.1, (q (t + 1) (hX _ (by omega) (by omega))).1, (q (t + 2) (hX _ (by omega) (by omega))).1, (q (t + 3) (hX _ (by omega) (by omega))).1, (q (t + 4) (hX _ (by omega) (by omega))).2.1, (q (t + 5) (hX _ (by omega) (by omega))).1, (q (t + 6) (hX _ (by omega) (by omega))).1, (q (t + 7) (hX _ (by omega) (by omega))).1, (q (t + 8) (hX _ (by omega) (by omega))).1, (q (t + 9) (hX _ (by omega) (by omega))).1]
  exact R
theorem RgM.same (R : RgM h ρ nS nK nm) {X : List Nat} (q : Same X h h') (hX : 158 ∉ X ∧ 159 ∉ X) : RgM h' ρ nS nK nm := by
  unfold RgM at R ⊢
  rw [(q 158 hX.1).1, (q 159 hX.2).2.1]
  exact R
/-! numbers, the close -/
def nbr (tp : List Nat) (s : Nat) : Nat := tkV tp s (tkE tp s - s)
theorem nbr_lt {s : Nat} (hk : tkK tp s = 2) : nbr tp s < 100 := by
  obtain ⟨a, b, c⟩ := tkK_2 hk
  have := tkV_lt (tp := tp) (s := s) (tkE tp s - s) (fun j hj => by
    have := cnt_0 (f := isLt) (tp := tp) (s := s) _ a j hj
    rcases lw _ (tk_in (tp := tp) (s := s) hj) with ⟨x, y⟩ | ⟨x, y⟩
    · rw [this] at x; cases x
    · exact y)
  have l : 10 ^ (tkE tp s - s) ≤ 10 ^ 2 := Nat.pow_le_pow_right (by decide) b
  have e : (10 : Nat) ^ 2 = 100 := by decide
  unfold nbr
  omega
theorem tkQ_K2 {L s : Nat} (hq : tkQ tp L s = 2) : tkK tp s = 2 := by
  unfold tkQ at hq
  by_cases h1 : s < min tp.length L
  · rw [if_pos h1] at hq; exact hq
  · rw [if_neg h1] at hq; omega
theorem tkQ_Rk {L s k : Nat} (hk : 0 < k) (hk4 : k < 4) : (tkQ tp L s = k) = (tkR tp L s = k) := by
  unfold tkQ tkR
  by_cases h1 : s < min tp.length L
  · rw [if_pos h1, if_pos h1]
  · rw [if_neg h1, if_neg h1]
    by_cases h2 : tp.length ≤ L
    · rw [if_pos h2]
    · rw [if_neg h2]
      exact propext ⟨fun z => by omega, fun z => by omega⟩
/-- the fault of a number that is asked for: none, 1, 2 -/
def nbF (tp : List Nat) (L s a b : Nat) : Nat := if tkQ tp L s = 2 then (if a ≤ nbr tp s ∧ nbr tp s ≤ b then 0 else 2) else 1
theorem c_numberHere {L s a b : Nat} (B : CT1 tp L s h) (ha : a < 1000) (hb : b < 1000) : f_X6_numberHere (nI a) (nI b) h = if nbF tp L s a b = 0 then some (nI (nbr tp s), h) else some (-1, gfF h (nbF tp L s a b) s) := by
  have ql := tkQ_lt (tp := tp) L s
  unfold f_X6_numberHere B_X6_numberHere_41 nbF
  rw [B.2.1]
  by_cases h1 : tkQ tp L s = 2
  · have n1 := nbr_lt (tkQ_K2 h1)
    have e5 : h.1 5 5 = nI (nbr tp s) := B.2.2.2.2.1 h1
    rw [if_pos (show nI (tkQ tp L s) = 2 by rw [h1]; rfl), if_pos h1, e5, show f_X6_refuse 2 h = some (0, gfF h 2 s) from c_refuse (k := 2) B, bndS]
    by_cases h2 : nbr tp s < a
    · rw [if_pos (nI_lt h2 (by omega)), if_neg (show ¬ (a ≤ nbr tp s ∧ nbr tp s ≤ b) by omega), if_neg (show ¬ 2 = 0 by decide)]
    · rw [if_neg (nI_nlt (by omega) (by omega))]
      by_cases h3 : nbr tp s ≤ b
      · rw [if_pos (nI_le h3 (by omega)), if_pos (show a ≤ nbr tp s ∧ nbr tp s ≤ b by omega), if_pos rfl]
      · rw [if_neg (nI_ge (by omega) (by omega)), if_neg (show ¬ (a ≤ nbr tp s ∧ nbr tp s ≤ b) by omega), if_neg (show ¬ 2 = 0 by decide)]
  · rw [if_neg (show ¬ nI (tkQ tp L s) = 2 from fun z => h1 ((nI_eq (b := 2) (by omega) (by omega)).mp z)), if_neg h1, if_neg (show ¬ 1 = 0 by decide), show f_X6_refuse 1 h = some (0, gfF h 1 s) from c_refuse (k := 1) B, bndS]
theorem m_takesT {L s a b : Nat} (B : MT1 tp L s h) (ha : a < 1000) (hb : b < 1000) : f_X13_takes (nI a) (nI b) h = if nbF tp L s a b = 0 then (bnv (f_X13_next (sI h 155 17 (nI (nbr tp s)))) fun h6 => some (1, h6)) else some (0, mfF h (nbF tp L s a b) s) := by
  have rl := tkR_lt (tp := tp) L s
  unfold f_X13_takes nbF
  rw [B.2.1]
  by_cases h1 : tkQ tp L s = 2
  · have h2 : tkR tp L s = 2 := (tkQ_Rk (by decide) (by decide)).mp h1
    have n1 := nbr_lt (tkQ_K2 h1)
    have e5 : h.1 155 13 = nI (nbr tp s) := B.2.2.2.2.1 h2
    rw [if_pos (show nI (tkR tp L s) = 2 by rw [h2]; rfl), if_pos h1, e5]
    rcases m_isIn (nI (nbr tp s)) (a := a) (b := b) h rfl rfl (by omega) (by omega) with ⟨e, q⟩ | ⟨j, q1, q2, q3, e⟩
    · have nn : ¬ (a ≤ nbr tp s ∧ nbr tp s ≤ b) := fun z => q _ z.1 z.2 rfl
      rw [e, bndS, if_pos rfl, if_neg nn, if_neg (show ¬ 2 = 0 by decide), show f_X13_bad 2 h = some (0, mfF h 2 s) from m_badT (k := 2) B, bndS, if_pos (show isZ 0 = true by decide)]
    · have ej : nbr tp s = j := (nI_eq (by omega) (by omega)).mp q3
      rw [e, bndS, if_neg (show ¬ (1 : Int32) = 0 by decide), if_pos (show a ≤ nbr tp s ∧ nbr tp s ≤ b by omega), if_pos rfl, e5, lt_s1]
  · have h2 : ¬ tkR tp L s = 2 := fun z => h1 ((tkQ_Rk (by decide) (by decide)).mpr z)
    rw [if_neg (show ¬ nI (tkR tp L s) = 2 from fun z => h2 ((nI_eq (b := 2) (by omega) (by omega)).mp z)), if_neg h1, if_neg (show ¬ 1 = 0 by decide), show f_X13_bad 1 h = some (0, mfF h 1 s) from m_badT (k := 1) B, bndS, if_pos (show isZ 0 = true by decide)]
theorem c_close {L s : Nat} (B : CT1 tp L s h) : f_X6_readClose h = if tkQ tp L s = 3 then (bnv (f_X9_advance h) fun h2 => some (1, h2)) else some (0, gfF h 1 s) := by
  have ql := tkQ_lt (tp := tp) L s
  unfold f_X6_readClose
  rw [B.2.1]
  by_cases h1 : tkQ tp L s = 3
  · rw [if_pos (show nI (tkQ tp L s) = 3 by rw [h1]; rfl), if_pos h1]
  · rw [if_neg (show ¬ nI (tkQ tp L s) = 3 from fun z => h1 ((nI_eq (b := 3) (by omega) (by omega)).mp z)), if_neg h1, show f_X6_refuse 1 h = some (0, gfF h 1 s) from c_refuse (k := 1) B, bndS, if_pos (show isZ 0 = true by decide)]
theorem m_signT {L s : Nat} (B : MT1 tp L s h) : f_X13_sign 59 h = if tkQ tp L s = 3 then (bnv (f_X13_next h) fun h4 => some (1, h4)) else some (0, mfF h 1 s) := by
  have rl := tkR_lt (tp := tp) L s
  unfold f_X13_sign f_X13_isSign
  rw [B.2.1]
  by_cases h1 : tkQ tp L s = 3
  · have h2 : tkR tp L s = 3 := (tkQ_Rk (by decide) (by decide)).mp h1
    rw [if_pos (show nI (tkR tp L s) = 3 by rw [h2]; rfl), B.2.2.2.2.2 h2, if_pos (show nI 59 = 59 from rfl), bndS, if_neg (show ¬ (1 : Int32) = 0 by decide), if_pos h1]
  · have h2 : ¬ tkR tp L s = 3 := fun z => h1 ((tkQ_Rk (by decide) (by decide)).mpr z)
    rw [if_neg (show ¬ nI (tkR tp L s) = 3 from fun z => h2 ((nI_eq (b := 3) (by omega) (by omega)).mp z)), bndS, if_pos (show (0 : Int32) = 0 from rfl), if_neg h1, show f_X13_bad 1 h = some (0, mfF h 1 s) from m_badT (k := 1) B, bndS, if_pos (show isZ 0 = true by decide)]
end UNGA
