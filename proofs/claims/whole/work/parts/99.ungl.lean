section UNGL
variable {tp : List Nat} {ρ ρ' σ : Nat → Nat} {nS nK nm : Nat → List Nat} {h h' gc gc1 gm : Hp} {s ed ck : Nat}
theorem RgM.mark {l : List Nat} (h3 : ρ 1 < 3) (h0 : ρ 0 ≤ 5) (R : RgM h ρ nS nK nm) (q1 : h'.1 158 1 = nI (ρ 1 + 1)) (q2 : ∀ j, j ≠ 1 → h'.1 158 j = h.1 158 j) (q4 : h'.2.1 159 (21 + ρ 1) = lN (nmM l)) (q5 : ∀ j, j ≠ 21 + ρ 1 → h'.2.1 159 j = h.2.1 159 j) : RgM h' (mrS ρ) nS (mrN ρ nK l) nm := by
  obtain ⟨a1, a2, a3, a4⟩ := R
  unfold RgM
  rw [mrS_o (show (0 : Nat) ≠ 1 by decide), mrS_o (show (2 : Nat) ≠ 1 by decide), show mrS ρ 1 = ρ 1 + 1 from rfl]
  refine ⟨fun k hk => ?_, fun i hi => ?_, fun i hi => ?_, fun w hw => ?_⟩
  · by_cases z : k = 1
    · subst z; rw [q1]; rfl
    · rw [q2 k z, mrS_o z]; exact a1 k hk
  · rw [q5 _ (by omega)]; exact a2 i hi
  · unfold mrN
    by_cases z : i = ρ 1
    · subst z; rw [if_pos rfl]; exact q4
    · rw [if_neg z, q5 _ (by omega)]; exact a3 i (by omega)
  · rw [q5 _ (by omega)]; exact a4 w hw
theorem RgOk.mark {l : List Nat} (h3 : ρ 1 < 3) (hl : okNm l) (R : RgOk ρ nS nK nm) : RgOk (mrS ρ) nS (mrN ρ nK l) nm := by
  obtain ⟨⟨⟨b1, b2, b3, b4⟩, c1, c2, c3, c4, c5, c6, c7⟩, d, e⟩ := R
  have o : ∀ k, k ≠ 1 → mrS ρ k = ρ k := fun k => mrS_o
  have o0 := o 0 (by decide)
  have o1 : mrS ρ 1 = ρ 1 + 1 := rfl
  have o2 := o 2 (by decide)
  refine ⟨⟨?_, fun k k1 k2 => ?_, fun k k1 k2 => ?_, fun w hw => ?_, fun k k1 k2 => ?_, fun w w1 w2 => ?_, fun i hi => ?_, fun k k1 k2 => ?_⟩, ?_, fun i hi => ?_⟩
  · rw [o0, o1, o2, o 3 (by decide), o 4 (by decide)]; exact ⟨b1, by omega, b3, b4⟩
  · rw [o k (by omega)]; exact c1 k k1 k2
  · rw [o0] at k1
    obtain ⟨z1, z2, z3, z4⟩ := c2 k k1 k2
    refine ⟨by rw [o _ (by omega)]; exact z1, by rw [o _ (by omega)]; exact z2, fun p hp => ⟨by rw [o _ (by omega)]; exact (z3 p hp).1, by rw [o _ (by omega)]; exact (z3 p hp).2⟩, fun w hw => by rw [o _ (by omega)]; exact z4 w hw⟩
  · rw [o2] at hw
    rw [o _ (by omega), o _ (by omega), o _ (by omega)]; exact c3 w hw
  · rw [o k (by omega)]; exact c4 k k1 k2
  · rw [o2] at w1
    exact ⟨by rw [o _ (by omega)]; exact (c5 w w1 w2).1, fun k hk => by rw [o _ (by omega)]; exact (c5 w w1 w2).2 k hk⟩
  · rw [o _ (by omega)]; exact c6 i hi
  · rw [o _ (by omega)]; exact c7 k k1 k2
  · rw [o0]; exact d
  · rw [o1] at hi
    unfold mrN
    by_cases z : i = ρ 1
    · rw [if_pos z]; exact hl
    · rw [if_neg z]; exact e i (by omega)
end UNGL
