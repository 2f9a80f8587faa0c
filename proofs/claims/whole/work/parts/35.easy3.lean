section E3
variable {tp : List Nat} {σ : Nat → Nat} {nm : Nat → List Nat} {K : Im} {fd : List Nat} {fl : Nat} {tn : Option Tn} {h h' : Hp}
theorem nI_ltT {a b : Nat} (h : a < b) (hb : b < 2 ^ 31) : nI a < nI b := nI_lt h hb
/-- isIn: a number between two -/
theorem m_isIn_t {x lo hi : Int32} {a b j : Nat} (h : Hp) (el : lo = nI a) (eh : hi = nI b) (hx : x = nI j) (h1 : a ≤ j) (h2 : j ≤ b) (hb : b < 2 ^ 31) : f_X13_isIn x lo hi h = some (1, h) := by
  subst el; subst eh
  unfold f_X13_isIn
  rw [hx, if_neg (nI_nlt h1 (by omega)), if_neg (nI_nlt h2 hb)]
theorem m_isIn (x : Int32) {lo hi : Int32} {a b : Nat} (h : Hp) (el : lo = nI a) (eh : hi = nI b) (ha : a < 2 ^ 31) (hb : b < 2 ^ 31) : (f_X13_isIn x lo hi h = some (0, h) ∧ ∀ j, a ≤ j → j ≤ b → x ≠ nI j) ∨ ∃ j, a ≤ j ∧ j ≤ b ∧ x = nI j ∧ f_X13_isIn x lo hi h = some (1, h) := by
  subst el; subst eh
  by_cases h1 : x < nI a
  · refine Or.inl ⟨by unfold f_X13_isIn; rw [if_pos h1], fun j h2 h3 e => ?_⟩
    rw [e] at h1
    exact nI_nlt h2 (by omega) h1
  · by_cases h2 : nI b < x
    · refine Or.inl ⟨by unfold f_X13_isIn; rw [if_neg h1, if_pos h2], fun j h3 h4 e => ?_⟩
      rw [e] at h2
      exact nI_nlt h4 hb h2
    · obtain ⟨j, h3, h4, h5⟩ := in_range ha hb h1 h2
      exact Or.inr ⟨j, h3, h4, h5, by unfold f_X13_isIn; rw [if_neg h1, if_neg h2]⟩
/-- isIn from 0 below a number that may be 0 -/
theorem m_isIn0 (x : Int32) {n : Nat} (h : Hp) (hn : n < 2 ^ 31) : (f_X13_isIn x 0 (nI n - 1) h = some (0, h) ∧ ∀ j, j < n → x ≠ nI j) ∨ ∃ j, j < n ∧ x = nI j ∧ f_X13_isIn x 0 (nI n - 1) h = some (1, h) := by
  cases n with
  | zero =>
    refine Or.inl ⟨?_, fun j hj => by omega⟩
    unfold f_X13_isIn
    by_cases h1 : x < 0
    · rw [if_pos h1]
    · rw [if_neg h1, if_pos]
      rw [fa_lt] at h1 ⊢
      have e1 : (nI 0 - 1).toInt = -1 := rfl
      have e2 : (0 : Int32).toInt = 0 := rfl
      omega
  | succ n =>
    rw [nI_pred]
    rcases m_isIn x (lo := 0) (a := 0) (b := n) h rfl rfl (by decide) (by omega) with ⟨e, q⟩ | ⟨j, q1, q2, q3, e⟩
    · exact Or.inl ⟨e, fun j hj => q j (by omega) (by omega)⟩
    · exact Or.inr ⟨j, by omega, q3, e⟩
theorem st_count (x : Int32) (hI : Inv h) : ∃ v h1 h2, f_X12_count x h = some (v, h1) ∧ f_X13_count_ x h1 = some (v, h2) ∧ Inv h2 := by
  obtain ⟨tp, σ, nm, K, fd, fl, tn, hA, hC, hM⟩ := hI
  have m1 := hM.keep (th_Eq 0)
  have i2 : Inv (sI h 155 0 0) := ⟨tp, σ, nm, K, fd, fl, tn, hA, hC.lo hA (th_Lo 0), m1⟩
  obtain ⟨t0, t1, t2, t3, t4⟩ := hC.2.1.1.1
  have ms := m1.2.1
  suffices H : ∃ v, f_X12_count x h = some (v, h) ∧ f_X13_count_ x h = some (v, sI h 155 0 0) by
    obtain ⟨v, e1, e2⟩ := H
    exact ⟨v, _, _, e1, e2, i2⟩
  unfold f_X12_count f_X13_count_
  rw [lt_s0]
  by_cases c0 : x = 0
  · exact ⟨_, by rw [if_pos c0], by rw [if_pos c0, t0]; rw [show ((0 : Int32).toNatClampNeg) = 0 from rfl, ms 0 (by decide)]⟩
  rw [if_neg c0, if_neg c0]
  by_cases c1 : x = 1
  · exact ⟨_, by rw [if_pos c1], by rw [if_pos c1, t1]; rw [lc (n := 1) (by decide), ms 1 (by decide)]⟩
  rw [if_neg c1, if_neg c1]
  by_cases c2 : x = 2
  · exact ⟨_, by rw [if_pos c2], by rw [if_pos c2, t2]; rw [lc (n := 2) (by decide), ms 2 (by decide)]⟩
  rw [if_neg c2, if_neg c2]
  by_cases c3 : x = 3
  · exact ⟨_, by rw [if_pos c3], by rw [if_pos c3, t3]; rw [lc (n := 3) (by decide), ms 3 (by decide)]⟩
  rw [if_neg c3, if_neg c3]
  by_cases c4 : x = 4
  · exact ⟨_, by rw [if_pos c4], by rw [if_pos c4, t4]; rw [lc (n := 4) (by decide), ms 4 (by decide)]⟩
  rw [if_neg c4, if_neg c4]
  by_cases c5 : x = 5
  · exact ⟨_, by rw [if_pos c5], by rw [if_pos c5, hC.2.1.2.1.1]; rw [lc (n := 437) (by decide), ms 437 (by decide)]⟩
  rw [if_neg c5, if_neg c5]
  by_cases c6 : x = 6
  · exact ⟨_, by rw [if_pos c6], by rw [if_pos c6, hC.2.1.2.2.1]; rw [lc (n := 462) (by decide), ms 462 (by decide)]⟩
  rw [if_neg c6, if_neg c6]
  by_cases c7 : x = 7
  · exact ⟨_, by rw [if_pos c7], by rw [if_pos c7, hC.1.1, m1.1.1]⟩
  exact ⟨_, by rw [if_neg c7], by rw [if_neg c7]⟩
theorem st_foundAt (x : Int32) (hI : Inv h) : ∃ v h1 h2, f_X12_foundAt x h = some (v, h1) ∧ f_X13_foundAt x h1 = some (v, h2) ∧ Inv h2 := by
  obtain ⟨tp, σ, nm, K, fd, fl, tn, hA, hC, hM⟩ := hI
  have m1 := hM.keep (th_Eq 0)
  have i2 : Inv (sI h 155 0 0) := ⟨tp, σ, nm, K, fd, fl, tn, hA, hC.lo hA (th_Lo 0), m1⟩
  have hl := hA.2.2.2.1
  obtain ⟨c1, c2⟩ := hC.2.2.2.2.1
  obtain ⟨d1, d2⟩ := m1.2.2.2.2.2.1
  unfold f_X12_foundAt f_X13_foundAt
  rcases m_isIn0 x (n := fd.length) (sI h 155 0 0) (by omega) with ⟨e, q⟩ | ⟨j, q1, q2, e⟩
  · refine ⟨-1, h, sI h 155 0 0, ?_, ?_, i2⟩
    · rw [bnd_s (row_none c1 q (by omega))]
    · rw [lt_s0, d1, bnd_s e, if_pos rfl]
  · subst q2
    refine ⟨nI (fd.getD j 0), h, sI h 155 0 0, ?_, ?_, i2⟩
    · rw [bnd_s (row_at c1 q1 (show fd.length ≤ 13 from hl) (by decide)), show 140 + 1 = 141 from rfl, c2 j q1]
    · rw [lt_s0, d1, bnd_s e, if_neg (by decide), if_pos (inb_nI (by omega) (by decide)), nI_clamp (by omega), d2 j q1]
theorem st_sure (x : Int32) (hI : Inv h) : ∃ v h1 h2, f_X12_sure x h = some (v, h1) ∧ f_X13_sure x h1 = some (v, h2) ∧ Inv h2 := by
  obtain ⟨tp, σ, nm, K, fd, fl, tn, hA, hC, hM⟩ := hI
  have m1 := hM.keep (th_Eq 0)
  have i2 : Inv (sI h 155 0 0) := ⟨tp, σ, nm, K, fd, fl, tn, hA, hC.lo hA (th_Lo 0), m1⟩
  have c1 := hC.2.2.2.2.2.1
  have d1 := m1.2.2.2.2.2.2.1
  suffices H : ∃ v, f_X12_sure x h = some (v, h) ∧ f_X13_sure x h = some (v, sI h 155 0 0) by
    obtain ⟨v, e1, e2⟩ := H
    exact ⟨v, _, _, e1, e2, i2⟩
  unfold f_X12_sure f_X13_sure
  rw [lt_s0]
  cases tn with
  | none => exact ⟨_, by rw [if_pos c1], by rw [if_pos d1]⟩
  | some q =>
    obtain ⟨a1, a2, a3, a4, -⟩ := c1
    obtain ⟨b1, b2, b3, b4, -⟩ := d1
    rw [if_neg (show ¬ h.1 133 0 = 0 by rw [a1]; decide), if_neg (show ¬ (sI h 155 0 0).1 155 53 = 0 by rw [b1]; decide)]
    rcases m_isIn x (lo := 0) (hi := 2) (a := 0) (b := 2) (sI h 155 0 0) rfl rfl (by decide) (by decide) with ⟨e, z⟩ | ⟨j, z1, z2, z3, e⟩
    · refine ⟨-1, ?_, ?_⟩
      · rw [if_neg (show ¬ x = 0 from z 0 (by omega) (by omega)), if_neg (show ¬ x = 1 from z 1 (by omega) (by omega)), if_neg (show ¬ x = 2 from z 2 (by omega) (by omega))]
      · rw [bnd_s e, if_pos rfl]
    · subst z3
      have ej : ∀ v : Int32, h.1 179 j = v → bnd (f_X13_isIn (nI j) 0 2 (sI h 155 0 0)) (fun v4 h3 => if v4 = 0 then some (-1, h3) else if inb (nI j) 3 = true then some (h3.1 179 ((nI j).toNatClampNeg), h3) else none) = some (v, sI h 155 0 0) := fun v hv => by
        rw [bnd_s e, if_neg (by decide), if_pos (inb_nI (by omega) (by decide)), nI_clamp (by omega), sI_ne1 (by decide), hv]
      rcases (show j = 0 ∨ j = 1 ∨ j = 2 by omega) with rfl | rfl | rfl
      · exact ⟨_, if_pos (show nI 0 = 0 from rfl), by rw [ej _ b2, a2]⟩
      · exact ⟨_, by rw [if_neg (show ¬ nI 1 = 0 by decide), if_pos (show nI 1 = 1 from rfl)], by rw [ej _ b3, a3]⟩
      · exact ⟨_, by rw [if_neg (show ¬ nI 2 = 0 by decide), if_neg (show ¬ nI 2 = 1 by decide), if_pos (show nI 2 = 2 from rfl)], by rw [ej _ b4, a4]⟩
end E3
