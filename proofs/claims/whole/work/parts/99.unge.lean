section UNGE
variable {tp : List Nat} {ρ ρ' σ : Nat → Nat} {nS nK nm : Nat → List Nat} {h h' gc gm : Hp} {s ed ck : Nat}
theorem ahd_u (e : ∀ j, 5 ≤ j → j < 40 → ρ' j = ρ j) {k : Nat} (hk : k < 5) : ahd ρ' k = ahd ρ k := by
  unfold ahd
  rw [e (15 + k) (by omega) (by omega), e (20 + k) (by omega) (by omega), e (25 + k) (by omega) (by omega), e (30 + k) (by omega) (by omega), e (35 + k) (by omega) (by omega), e (5 + k) (by omega) (by omega)]
theorem ens_u (e : ∀ j, 10 ≤ j → j < 15 → ρ' j = ρ j) : ens ρ' = ens ρ := by
  unfold ens
  rw [e 10 (by omega) (by omega), e 11 (by omega) (by omega), e 12 (by omega) (by omega), e 13 (by omega) (by omega), e 14 (by omega) (by omega)]
theorem rds_u (e : ∀ j, 72 ≤ j → j < 112 → ρ' j = ρ j) {w : Nat} (hw : w < 8) : rds ρ' w = rds ρ w := by
  unfold rds
  rw [e (72 + 5 * w) (by omega) (by omega), e (73 + 5 * w) (by omega) (by omega), e (74 + 5 * w) (by omega) (by omega), e (75 + 5 * w) (by omega) (by omega), e (76 + 5 * w) (by omega) (by omega)]
theorem idl_u (e : ∀ j, 64 ≤ j → j < 72 → ρ' j = ρ j) : idl ρ' = idl ρ := by
  unfold idl
  rw [e 64 (by omega) (by omega), e 65 (by omega) (by omega), e 66 (by omega) (by omega), e 67 (by omega) (by omega), e 68 (by omega) (by omega), e 69 (by omega) (by omega), e 70 (by omega) (by omega), e 71 (by omega) (by omega)]
theorem mk_u (e : ∀ j, 72 ≤ j → j < 432 → ρ' j = ρ j) {i : Nat} (hi : i < 320) : mk ρ' i = mk ρ i := by
  unfold mk
  rw [e (72 + i / 8) (by omega) (by omega), e (112 + i) (by omega) (by omega)]
/-- another EDICT -/
def edS (ρ : Nat → Nat) (a b : Nat) : Nat → Nat := fun k => if k = 3 then a else if k = 4 then b else ρ k
theorem edS_o {a b k : Nat} (h3 : k ≠ 3) (h4 : k ≠ 4) : edS ρ a b k = ρ k := by unfold edS; rw [if_neg h3, if_neg h4]
theorem RgC.edict {a b : Nat} (R : RgC h 142 ρ nS nK nm) (q : Same [144] h h') (h3 : h'.1 144 0 = nI a) (h4 : h'.1 144 1 = nI b) : RgC h' 142 (edS ρ a b) nS nK nm := by
  obtain ⟨⟨a1, a2, a3, -, -⟩, ⟨b1, b2, b3⟩, c, ⟨d1, d2⟩, e, ⟨f1, f2⟩, g⟩ := R
  have o : ∀ k, k ≠ 3 → k ≠ 4 → edS ρ a b k = ρ k := fun k => edS_o
  have i0 : ∀ c, c ≠ 144 → h'.1 c = h.1 c := fun c hc => (q c (by simp only [List.mem_cons, List.not_mem_nil, or_false]; exact hc)).1
  have l0 : ∀ c, c ≠ 144 → h'.2.1 c = h.2.1 c := fun c hc => (q c (by simp only [List.mem_cons, List.not_mem_nil, or_false]; exact hc)).2.1
  unfold RgC
  rw [o 0 (by decide) (by decide), o 1 (by decide) (by decide), o 2 (by decide) (by decide), i0 142 (by decide), l0 142 (by decide), i0 (142 + 1) (by decide), i0 (142 + 3) (by decide), l0 (142 + 4) (by decide), i0 (142 + 5) (by decide), i0 (142 + 6) (by decide), i0 (142 + 7) (by decide), i0 (142 + 8) (by decide), i0 (142 + 9) (by decide), ens_u (fun j _ _ => o j (by omega) (by omega)), idl_u (fun j _ _ => o j (by omega) (by omega))]
  refine ⟨⟨a1, a2, a3, h3, h4⟩, ⟨b1, b2, b3⟩, fun k k1 k2 => ?_, ⟨fun k hk => ?_, d2⟩, fun w hw => ?_, ⟨fun w hw => ?_, f2⟩, fun i hi => ?_⟩
  · rw [o _ (by omega) (by omega)]; exact c k k1 k2
  · rw [ahd_u (fun j _ _ => o j (by omega) (by omega)) hk]; exact d1 k hk
  · rw [o _ (by omega) (by omega), o _ (by omega) (by omega), o _ (by omega) (by omega)]; exact e w hw
  · rw [rds_u (fun j _ _ => o j (by omega) (by omega)) hw]; exact f1 w hw
  · rw [mk_u (fun j _ _ => o j (by omega) (by omega)) hi]; exact g i hi
theorem RgM.edict {a b : Nat} (R : RgM h ρ nS nK nm) (q : ∀ k, k ≠ 3 → k ≠ 4 → h'.1 158 k = h.1 158 k) (q2 : h'.2.1 159 = h.2.1 159) (h3 : h'.1 158 3 = nI a) (h4 : h'.1 158 4 = nI b) : RgM h' (edS ρ a b) nS nK nm := by
  obtain ⟨a1, a2, a3, a4⟩ := R
  unfold RgM
  rw [q2, edS_o (show (0 : Nat) ≠ 3 by decide) (by decide), edS_o (show (1 : Nat) ≠ 3 by decide) (by decide), edS_o (show (2 : Nat) ≠ 3 by decide) (by decide)]
  refine ⟨fun k hk => ?_, a2, a3, a4⟩
  by_cases k3 : k = 3
  · subst k3; rw [h3]; rfl
  · by_cases k4 : k = 4
    · subst k4; rw [h4]; rfl
    · rw [q k k3 k4, edS_o k3 k4]; exact a1 k hk
theorem RgOk.edict {a b : Nat} (R : RgOk ρ nS nK nm) (ha : 2 ≤ a ∧ a ≤ 5) (hb : 1 ≤ b ∧ b < a) : RgOk (edS ρ a b) nS nK nm := by
  obtain ⟨⟨⟨b1, b2, b3, -⟩, c1, c2, c3, c4, c5, c6, c7⟩, d, e⟩ := R
  have o : ∀ k, k ≠ 3 → k ≠ 4 → edS ρ a b k = ρ k := fun k => edS_o
  have e3 : edS ρ a b 3 = a := if_pos rfl
  have e4 : edS ρ a b 4 = b := rfl
  refine ⟨⟨⟨?_, ?_, ?_, ?_, ?_, ?_, ?_⟩, fun k k1 k2 => ?_, fun k k1 k2 => ?_, fun w hw => ?_, fun k k1 k2 => ?_, fun w w1 w2 => ?_, fun i hi => ?_, fun k k1 k2 => ?_⟩, ?_, ?_⟩
  · rw [o 0 (by decide) (by decide)]; exact b1
  · rw [o 1 (by decide) (by decide)]; exact b2
  · rw [o 2 (by decide) (by decide)]; exact b3
  · rw [e3]; exact ha.1
  · rw [e3]; exact ha.2
  · rw [e4]; exact hb.1
  · rw [e3, e4]; exact hb.2
  · rw [o k (by omega) (by omega)]; exact c1 k k1 k2
  · rw [o 0 (by decide) (by decide)] at k1
    obtain ⟨z1, z2, z3, z4⟩ := c2 k k1 k2
    refine ⟨by rw [o _ (by omega) (by omega)]; exact z1, by rw [o _ (by omega) (by omega)]; exact z2, fun p hp => ⟨by rw [o _ (by omega) (by omega)]; exact (z3 p hp).1, by rw [o _ (by omega) (by omega)]; exact (z3 p hp).2⟩, fun w hw => by rw [o _ (by omega) (by omega)]; exact z4 w hw⟩
  · rw [o 2 (by decide) (by decide)] at hw
    rw [o _ (by omega) (by omega), o _ (by omega) (by omega), o _ (by omega) (by omega)]; exact c3 w hw
  · rw [o k (by omega) (by omega)]; exact c4 k k1 k2
  · rw [o 2 (by decide) (by decide)] at w1
    exact ⟨by rw [o _ (by omega) (by omega)]; exact (c5 w w1 w2).1, fun k hk => by rw [o _ (by omega) (by omega)]; exact (c5 w w1 w2).2 k hk⟩
  · rw [o _ (by omega) (by omega)]; exact c6 i hi
  · rw [o _ (by omega) (by omega)]; exact c7 k k1 k2
  · rw [o 0 (by decide) (by decide)]; exact d
  · rw [o 1 (by decide) (by decide)]; exact e
end UNGE
