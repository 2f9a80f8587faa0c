section WKF
theorem m_put2 {tp : List Nat} {h : Hp} {b : Nat} (hs : h.1 155 2 = nI tp.length) (hl : lsB (h.1 156) tp) : ∃ h', sI (sI h 156 tp.length (sb_b b)) 155 2 (nI (tp.length + 1)) = h' ∧ h'.1 155 2 = nI (tp ++ [b]).length ∧ lsB (h'.1 156) (tp ++ [b]) ∧ (Same [155, 156] h h' ∧ (∀ j, j ≠ 2 → h'.1 155 j = h.1 155 j) ∧ h'.2 = h.2) := by
  refine ⟨_, rfl, ?_, ?_, (Same.ofI (by decide)).tr (Same.ofI (by decide)), fun j hj => by rw [sI_nk1 hj, sI_ne1 (by decide)], rfl⟩
  · rw [sI_s, List.length_append]; rfl
  · intro i hi
    rw [List.length_append, List.length_singleton] at hi
    rw [sI_ne1 (by decide)]
    by_cases hi2 : i = tp.length
    · subst hi2
      rw [sI_s]
      simp [List.getD_eq_getElem?_getD]
    · rw [sI_nk1 hi2, hl i (by omega)]
      simp [List.getD_eq_getElem?_getD, List.getElem?_append_left (show i < tp.length by omega)]
theorem m_four2 {tp : List Nat} {h : Hp} (x : Int32) (hs : h.1 155 2 = nI tp.length) (hl : lsB (h.1 156) tp) (hn : tp.length + 4 ≤ 940) : ∃ h', f_X13_four x h = some h' ∧ h'.1 155 2 = nI (tp ++ byts x).length ∧ lsB (h'.1 156) (tp ++ byts x) ∧ (Same [155, 156] h h' ∧ (∀ j, j ≠ 2 → h'.1 155 j = h.1 155 j) ∧ h'.2 = h.2) := by
  have F1 : ∀ k self i h, F_X13_four_3 x k self i h = (if i < 0 then k h else if inb (h.1 155 2) 940 = true then lt (sI h 156 ((h.1 155 2).toNatClampNeg) (vp_nar .byte ((jshr x i).toInt8.toInt32))) fun h3 => lt (sI h3 155 2 ((h3.1 155 2) + 1)) fun h4 => self (i + (-8)) h4 else none) := fun _ _ _ _ => rfl
  have st : ∀ (tp : List Nat) (h : Hp) (i : Int32) (b : Nat) (f : Hp → Option Hp), h.1 155 2 = nI tp.length → tp.length < 940 → vp_nar .byte ((jshr x i).toInt8.toInt32) = sb_b b → (if inb (h.1 155 2) 940 = true then lt (sI h 156 ((h.1 155 2).toNatClampNeg) (vp_nar .byte ((jshr x i).toInt8.toInt32))) fun h3 => lt (sI h3 155 2 ((h3.1 155 2) + 1)) fun h4 => f h4 else none) = f (sI (sI h 156 tp.length (sb_b b)) 155 2 (nI (tp.length + 1))) := by
    intro tp h i b f e hn hb
    rw [e, if_pos (inb_nI hn (by decide)), lt_s0, lt_s0, hb, nI_clamp (by omega), sI_ne1 (by decide), e, nI_1]
  have m1 := byt_M x ((24 : Int32) &&& 31) 24 (by omega) (by decide)
  have m2 := byt_M x ((16 : Int32) &&& 31) 16 (by omega) (by decide)
  have m3 := byt_M x ((8 : Int32) &&& 31) 8 (by omega) (by decide)
  have m4 := byt_M x ((0 : Int32) &&& 31) 0 (by omega) (by decide)
  obtain ⟨h1, p1, s1, l1, q1, r1, z1⟩ := m_put2 (b := byt x 24) hs hl
  obtain ⟨h2, p2, s2, l2, q2, r2, z2⟩ := m_put2 (b := byt x 16) s1 l1
  obtain ⟨h3, p3, s3, l3, q3, r3, z3⟩ := m_put2 (b := byt x 8) s2 l2
  obtain ⟨h4, p4, s4, l4, q4, r4, z4⟩ := m_put2 (b := byt x 0) s3 l3
  simp only [List.length_append, List.length_singleton] at p2 p3 p4
  refine ⟨h4, ?_, ?_, ?_, ((q1.tr q2).tr q3).tr q4, fun j hj => by rw [r4 j hj, r3 j hj, r2 j hj, r1 j hj], by rw [z4, z3, z2, z1]⟩
  · unfold f_X13_four
    rw [N0_5, itr2_s, F1, if_neg (by decide), st tp h 24 (byt x 24) (fun h4 => itr2 _ _ _ h4) hs (by omega) m1]
    rw [p1, itr2_s, F1, if_neg (by decide), show (24 : Int32) + -8 = 16 from rfl, st _ h1 16 (byt x 16) (fun h4 => itr2 _ _ _ h4) s1 (by simp only [List.length_append, List.length_singleton]; omega) m2]
    simp only [List.length_append, List.length_singleton]
    rw [p2, itr2_s, F1, if_neg (by decide), show (16 : Int32) + -8 = 8 from rfl, st _ h2 8 (byt x 8) (fun h4 => itr2 _ _ _ h4) s2 (by simp only [List.length_append, List.length_singleton]; omega) m3]
    simp only [List.length_append, List.length_singleton]
    rw [p3, itr2_s, F1, if_neg (by decide), show (8 : Int32) + -8 = 0 from rfl, st _ h3 0 (byt x 0) (fun h4 => itr2 _ _ _ h4) s3 (by simp only [List.length_append, List.length_singleton]; omega) m4]
    simp only [List.length_append, List.length_singleton]
    rw [p4, itr2_s, F1, if_pos (by decide)]
  · rw [s4]; simp [byts]
  · simpa [byts] using l4

variable {tp : List Nat} {σ : Nat → Nat} {nm : Nat → List Nat} {K : Im} {fd : List Nat} {fl : Nat} {tn : Option Tn} {h h' : Hp}
theorem byts_len (x : Int32) : (byts x).length = 4 := rfl
theorem byts_lt (x : Int32) : ∀ q ∈ byts x, q < 256 := by
  intro q hq
  unfold byts byt at hq
  simp only [List.mem_cons, List.not_mem_nil, or_false] at hq
  rcases hq with rfl | rfl | rfl | rfl <;> exact Nat.mod_lt _ (by decide)
theorem st_feed (x1 x2 x3 x4 x5 : Int32) (hI : Inv h) : ∃ v h1 h2, f_X12_feed x1 x2 x3 x4 x5 h = some (v, h1) ∧ f_X13_feed x1 x2 x3 x4 x5 h1 = some (v, h2) ∧ Inv h2 := by
  obtain ⟨tp, σ, nm, K, fd, fl, tn, hA, hC, hM⟩ := hI
  have tl := hA.1.1
  obtain ⟨c1, c2⟩ := hC.1
  by_cases hn : tp.length + 20 ≤ 940
  · -- the class
    obtain ⟨g1, e1, s1, l1, q1⟩ := c_putBytes x1 c1 c2 (by omega)
    obtain ⟨g2, e2, s2, l2, q2⟩ := c_putBytes x2 s1 l1 (by rw [List.length_append, byts_len]; omega)
    obtain ⟨g3, e3, s3, l3, q3⟩ := c_putBytes x3 s2 l2 (by simp only [List.length_append, byts_len]; omega)
    obtain ⟨g4, e4, s4, l4, q4⟩ := c_putBytes x4 s3 l3 (by simp only [List.length_append, byts_len]; omega)
    obtain ⟨g5, e5, s5, l5, q5⟩ := c_putBytes x5 s4 l4 (by simp only [List.length_append, byts_len]; omega)
    have S5 : Same [2, 3] h g5 := (((q1.tr q2).tr q3).tr q4).tr q5
    obtain ⟨tp5, ht⟩ : ∃ t, t = tp ++ byts x1 ++ byts x2 ++ byts x3 ++ byts x4 ++ byts x5 := ⟨_, rfl⟩
    rw [← ht] at s5 l5
    have C5 : CR tp5 σ nm K fd fl tn g5 := hC.tape hA S5 s5 l5
    have A5 : AbOk tp5 σ nm K fd fl tn := hA.tape (by rw [ht]; simp only [List.length_append, byts_len]; omega) (fun x hx => by
      rw [ht] at hx
      simp only [List.mem_append] at hx
      rcases hx with ((((hx | hx) | hx) | hx) | hx) | hx
      · exact hA.1.2 x hx
      · exact byts_lt _ x hx
      · exact byts_lt _ x hx
      · exact byts_lt _ x hx
      · exact byts_lt _ x hx
      · exact byts_lt _ x hx)
    -- the reference
    have M0 : MR tp σ nm K fd fl tn (sI g5 155 0 0) := (hM.hi (S5.hi (by decide))).keep (th_Eq 0)
    obtain ⟨m1, m2⟩ := M0.1
    obtain ⟨p1, f1, t1, k1, u1, v1, w1⟩ := m_four2 x1 m1 m2 (by omega)
    obtain ⟨p2, f2, t2, k2, u2, v2, w2⟩ := m_four2 x2 t1 k1 (by rw [List.length_append, byts_len]; omega)
    obtain ⟨p3, f3, t3, k3, u3, v3, w3⟩ := m_four2 x3 t2 k2 (by simp only [List.length_append, byts_len]; omega)
    obtain ⟨p4, f4, t4, k4, u4, v4, w4⟩ := m_four2 x4 t3 k3 (by simp only [List.length_append, byts_len]; omega)
    obtain ⟨p5, f5, t5, k5, u5, v5, w5⟩ := m_four2 x5 t4 k4 (by simp only [List.length_append, byts_len]; omega)
    rw [← ht] at t5 k5
    have U5 : Same [155, 156] (sI g5 155 0 0) p5 := (((u1.tr u2).tr u3).tr u4).tr u5
    have M5 : MR tp5 σ nm K fd fl tn p5 := M0.tape U5 (fun j hj => by rw [v5 j hj, v4 j hj, v3 j hj, v2 j hj, v1 j hj]) t5 k5 (by rw [w5, w4, w3, w2, w1])
    refine ⟨nI tp5.length, g5, p5, ?_, ?_, tp5, σ, nm, K, fd, fl, tn, A5, C5.lo A5 ((th_Lo 0).tr (U5.lo (by decide))), M5⟩
    · unfold f_X12_feed
      rw [c1, show nI tp.length + 20 = nI (tp.length + 20) by rw [show (20 : Int32) = nI 20 from rfl, nI_add], if_pos (show nI (tp.length + 20) ≤ 940 from nI_le (b := 940) hn (by omega)), e1, bnvS, e2, bnvS, e3, bnvS, e4, bnvS, e5, bnvS, s5]
    · unfold f_X13_feed
      rw [lt_s1, m1, show nI tp.length + 20 = nI (tp.length + 20) by rw [show (20 : Int32) = nI 20 from rfl, nI_add], if_pos (show nI (tp.length + 20) ≤ 940 from nI_le (b := 940) hn (by omega)), f1, bnvS, f2, bnvS, f3, bnvS, f4, bnvS, f5, bnvS, t5]
  · have M0 : MR tp σ nm K fd fl tn (sI h 155 0 0) := hM.keep (th_Eq 0)
    refine ⟨-1, h, sI h 155 0 0, ?_, ?_, tp, σ, nm, K, fd, fl, tn, hA, hC.lo hA (th_Lo 0), M0⟩
    · unfold f_X12_feed
      rw [c1, show nI tp.length + 20 = nI (tp.length + 20) by rw [show (20 : Int32) = nI 20 from rfl, nI_add], if_neg (show ¬ nI (tp.length + 20) ≤ 940 from nI_ge (a := 940) (by omega) (by omega))]
    · unfold f_X13_feed
      rw [lt_s1, M0.1.1, show nI tp.length + 20 = nI (tp.length + 20) by rw [show (20 : Int32) = nI 20 from rfl, nI_add], if_neg (show ¬ nI (tp.length + 20) ≤ 940 from nI_ge (a := 940) (by omega) (by omega))]
end WKF
