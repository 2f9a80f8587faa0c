theorem itr2_s {A B β : Type} (F : (A → B → Option β) → A → B → Option β) (n : Nat) (a : A) (b : B) : itr2 F (n + 1) a b = F (itr2 F n) a b := rfl
theorem itr3_s {A B C β : Type} (F : (A → B → C → Option β) → A → B → C → Option β) (n : Nat) (a : A) (b : B) (c : C) : itr3 F (n + 1) a b c = F (itr3 F n) a b c := rfl
theorem N0_5 : N0 = 999999999999999999999999999995 + 1 + 1 + 1 + 1 + 1 := rfl
theorem c_putBytes {tp : List Nat} {h : Hp} (x : Int32) (hs : h.1 2 1 = nI tp.length) (hl : lsI (h.1 3) tp) (hn : tp.length + 4 ≤ 940) : ∃ h', f_X12_putBytes x h = some h' ∧ h'.1 2 1 = nI (tp ++ byts x).length ∧ lsI (h'.1 3) (tp ++ byts x) ∧ Same [2, 3] h h' := by
  have F1 : ∀ k self i h, F_X12_putBytes_3 x k self i h = (if i < 0 then k h else bnv (f_X7_put 2 ((jushr x i) &&& 255) h) fun h2 => self (i + (-8)) h2) := fun _ _ _ _ => rfl
  obtain ⟨⟨b1, b2⟩, b3, b4⟩ := byt_C x
  obtain ⟨h1, p1, s1, l1, q1⟩ := tape_put (b := byt x 24) hs hl (by omega)
  obtain ⟨h2, p2, s2, l2, q2⟩ := tape_put (b := byt x 16) s1 l1 (by rw [List.length_append, List.length_singleton]; omega)
  obtain ⟨h3, p3, s3, l3, q3⟩ := tape_put (b := byt x 8) s2 l2 (by simp only [List.length_append, List.length_singleton]; omega)
  obtain ⟨h4, p4, s4, l4, q4⟩ := tape_put (b := byt x 0) s3 l3 (by simp only [List.length_append, List.length_singleton]; omega)
  refine ⟨h4, ?_, ?_, ?_, ((q1.tr q2).tr q3).tr q4⟩
  · unfold f_X12_putBytes
    rw [N0_5, itr2_s, F1, if_neg (by decide), b1, bnv_s p1, itr2_s, F1, if_neg (by decide), show (24 : Int32) + -8 = 16 from rfl, b2, bnv_s p2, itr2_s, F1, if_neg (by decide), show (16 : Int32) + -8 = 8 from rfl, b3, bnv_s p3, itr2_s, F1, if_neg (by decide), show (8 : Int32) + -8 = 0 from rfl, b4, bnv_s p4, itr2_s, F1, if_pos (by decide)]
  · rw [s4]; simp [byts]
  · simpa [byts] using l4
/-- a byte behind the reference's tape -/
def lsB (f : Nat → Int32) (l : List Nat) : Prop := ∀ i, i < l.length → f i = sb_b (l.getD i 0)
theorem m_put {tp : List Nat} {h : Hp} {b : Nat} (hs : h.1 155 2 = nI tp.length) (hl : lsB (h.1 156) tp) : ∃ h', sI (sI h 156 tp.length (sb_b b)) 155 2 (nI (tp.length + 1)) = h' ∧ h'.1 155 2 = nI (tp ++ [b]).length ∧ lsB (h'.1 156) (tp ++ [b]) ∧ (Same [155, 156] h h' ∧ ∀ j, j ≠ 2 → h'.1 155 j = h.1 155 j) := by
  refine ⟨_, rfl, ?_, ?_, (Same.ofI (by decide)).tr (Same.ofI (by decide)), fun j hj => by rw [sI_nk1 hj, sI_ne1 (by decide)]⟩
  · rw [sI_s, List.length_append]; rfl
  · intro i hi
    rw [List.length_append, List.length_singleton] at hi
    rw [sI_ne1 (by decide)]
    by_cases hi2 : i = tp.length
    · subst hi2
      rw [sI_s]
      simp [List.getD_eq_getElem?_getD]
    · rw [sI_nk1 hi2, hl i (by omega)]
      simp [List.getD_eq_getElem?_getD, List.getElem?_append_left (show i < tp.length by omega)]
theorem m_four {tp : List Nat} {h : Hp} (x : Int32) (hs : h.1 155 2 = nI tp.length) (hl : lsB (h.1 156) tp) (hn : tp.length + 4 ≤ 940) : ∃ h', f_X13_four x h = some h' ∧ h'.1 155 2 = nI (tp ++ byts x).length ∧ lsB (h'.1 156) (tp ++ byts x) ∧ (Same [155, 156] h h' ∧ ∀ j, j ≠ 2 → h'.1 155 j = h.1 155 j) := by
  have F1 : ∀ k self i h, F_X13_four_3 x k self i h = (if i < 0 then k h else if inb (h.1 155 2) 940 = true then lt (sI h 156 ((h.1 155 2).toNatClampNeg) (vp_nar .byte ((jshr x i).toInt8.toInt32))) fun h3 => lt (sI h3 155 2 ((h3.1 155 2) + 1)) fun h4 => self (i + (-8)) h4 else none) := fun _ _ _ _ => rfl
  have st : ∀ (tp : List Nat) (h : Hp) (i : Int32) (b : Nat) (f : Hp → Option Hp), h.1 155 2 = nI tp.length → tp.length < 940 → vp_nar .byte ((jshr x i).toInt8.toInt32) = sb_b b → (if inb (h.1 155 2) 940 = true then lt (sI h 156 ((h.1 155 2).toNatClampNeg) (vp_nar .byte ((jshr x i).toInt8.toInt32))) fun h3 => lt (sI h3 155 2 ((h3.1 155 2) + 1)) fun h4 => f h4 else none) = f (sI (sI h 156 tp.length (sb_b b)) 155 2 (nI (tp.length + 1))) := by
    intro tp h i b f e hn hb
    rw [e, if_pos (inb_nI hn (by decide)), lt_s0, lt_s0, hb, nI_clamp (by omega), sI_ne1 (by decide), e, nI_1]
  have m1 := byt_M x ((24 : Int32) &&& 31) 24 (by omega) (by decide)
  have m2 := byt_M x ((16 : Int32) &&& 31) 16 (by omega) (by decide)
  have m3 := byt_M x ((8 : Int32) &&& 31) 8 (by omega) (by decide)
  have m4 := byt_M x ((0 : Int32) &&& 31) 0 (by omega) (by decide)
  obtain ⟨h1, p1, s1, l1, q1, r1⟩ := m_put (b := byt x 24) hs hl
  obtain ⟨h2, p2, s2, l2, q2, r2⟩ := m_put (b := byt x 16) s1 l1
  obtain ⟨h3, p3, s3, l3, q3, r3⟩ := m_put (b := byt x 8) s2 l2
  obtain ⟨h4, p4, s4, l4, q4, r4⟩ := m_put (b := byt x 0) s3 l3
  simp only [List.length_append, List.length_singleton] at p2 p3 p4
  refine ⟨h4, ?_, ?_, ?_, ((q1.tr q2).tr q3).tr q4, fun j hj => by rw [r4 j hj, r3 j hj, r2 j hj, r1 j hj]⟩
  · unfold f_X13_four
    rw [N0_5, itr2_s, F1, if_neg (by decide), st tp h 24 (byt x 24) (fun h4 => itr2 _ _ _ h4) hs (by omega) m1]
    rw [p1, itr2_s, F1, if_neg (by decide), show (24 : Int32) + -8 = 16 from rfl, st _ h1 16 (byt x 16) (fun h4 => itr2 _ _ _ h4) s1 (by simp only [List.length_append, List.length_singleton]; omega) m2]
    simp only [List.length_append, List.length_singleton]
    rw [p2, itr2_s, F1, if_neg (by decide), show (16 : Int32) + -8 = 8 from rfl, st _ h2 8 (byt x 8) (fun h4 => itr2 _ _ _ h4) s2 (by simp only [List.length_append, List.length_singleton]; omega) m3]
    simp only [List.length_append, List.length_singleton]
    rw [p3, itr2_s, F1, if_neg (by decide), show (8 : Int32) + -8 = 0 from rfl, st _ h3 0 (byt x 0) (fun h4 => itr2 _ _ _ h4) s3 (by simp only [List.length_append, List.length_singleton]; omega) m4]
    simp only [List.length_append, List.length_singleton]
    rw [p4, itr2_s, F1, if_pos (by decide)]
  · rw [s4]; simp [byts]
  · simpa [byts] using l4
