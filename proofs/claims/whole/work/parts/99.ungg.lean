section UNGG
variable {tp : List Nat} {ρ ρ' σ : Nat → Nat} {nS nK nm : Nat → List Nat} {h h' gc gm : Hp} {s ed ck : Nat}
/-- another number of a clerk -/
def ckS (ρ : Nat → Nat) (v n : Nat) : Nat → Nat := fun k => if k = 431 + v then n else ρ k
theorem ckS_o {v n k : Nat} (hk : k ≠ 431 + v) : ckS ρ v n k = ρ k := if_neg hk
theorem RgC.clerk {v n : Nat} (hv : 1 ≤ v) (h8 : ρ 2 ≤ 8) (R : RgC h 142 ρ nS nK nm) (q : Same [145] h h') (h3 : h'.1 145 v = nI n) (h4 : ∀ j, j ≠ v → h'.1 145 j = h.1 145 j) : RgC h' 142 (ckS ρ v n) nS nK nm := by
  obtain ⟨⟨a1, a2, a3, a4, a5⟩, ⟨b1, b2, b3⟩, c, ⟨d1, d2⟩, e, ⟨f1, f2⟩, g⟩ := R
  have o : ∀ k, k < 432 → ckS ρ v n k = ρ k := fun k hk => ckS_o (by omega)
  have i0 : ∀ c, c ≠ 145 → h'.1 c = h.1 c := fun c hc => (q c (by simp only [List.mem_cons, List.not_mem_nil, or_false]; exact hc)).1
  have l0 : ∀ c, c ≠ 145 → h'.2.1 c = h.2.1 c := fun c hc => (q c (by simp only [List.mem_cons, List.not_mem_nil, or_false]; exact hc)).2.1
  unfold RgC
  rw [o 0 (by decide), o 1 (by decide), o 2 (by decide), o 3 (by decide), o 4 (by decide), i0 142 (by decide), l0 142 (by decide), i0 (142 + 1) (by decide), i0 (142 + 2) (by decide), l0 (142 + 4) (by decide), i0 (142 + 5) (by decide), i0 (142 + 6) (by decide), i0 (142 + 7) (by decide), i0 (142 + 8) (by decide), i0 (142 + 9) (by decide), ens_u (fun j _ _ => o j (by omega)), idl_u (fun j _ _ => o j (by omega))]
  refine ⟨⟨a1, a2, a3, a4, a5⟩, ⟨b1, b2, b3⟩, fun k k1 k2 => ?_, ⟨fun k hk => ?_, d2⟩, fun w hw => ?_, ⟨fun w hw => ?_, f2⟩, fun i hi => ?_⟩
  · show h'.1 145 k = _
    by_cases hk : k = v
    · subst hk
      rw [h3]
      unfold ckS
      rw [if_pos rfl]
    · rw [h4 k hk, ckS_o (by omega)]; exact c k k1 k2
  · rw [ahd_u (fun j _ _ => o j (by omega)) hk]; exact d1 k hk
  · rw [o _ (by omega), o _ (by omega), o _ (by omega)]; exact e w hw
  · rw [rds_u (fun j _ _ => o j (by omega)) hw]; exact f1 w hw
  · rw [mk_u (fun j _ _ => o j (by omega)) hi]; exact g i hi
theorem RgM.clerk {v n : Nat} (hv : 1 ≤ v) (R : RgM h ρ nS nK nm) (q : ∀ k, k ≠ 431 + v → h'.1 158 k = h.1 158 k) (q2 : h'.2.1 159 = h.2.1 159) (h3 : h'.1 158 (431 + v) = nI n) : RgM h' (ckS ρ v n) nS nK nm := by
  obtain ⟨a1, a2, a3, a4⟩ := R
  unfold RgM
  rw [q2, ckS_o (show (0 : Nat) ≠ 431 + v by omega), ckS_o (show (1 : Nat) ≠ 431 + v by omega), ckS_o (show (2 : Nat) ≠ 431 + v by omega)]
  refine ⟨fun k hk => ?_, a2, a3, a4⟩
  by_cases k3 : k = 431 + v
  · subst k3; rw [h3]; unfold ckS; rw [if_pos rfl]
  · rw [q k k3, ckS_o k3]; exact a1 k hk
theorem RgOk.clerk {v n : Nat} (hv : 1 ≤ v) (R : RgOk ρ nS nK nm) (hn : n ≤ 9) : RgOk (ckS ρ v n) nS nK nm := by
  obtain ⟨⟨⟨b1, b2, b3, b4⟩, c1, c2, c3, c4, c5, c6, c7⟩, d, e⟩ := R
  have o : ∀ k, k < 432 → ckS ρ v n k = ρ k := fun k hk => ckS_o (by omega)
  have o0 := o 0 (by decide)
  have o1 := o 1 (by decide)
  have o2 := o 2 (by decide)
  refine ⟨⟨?_, fun k k1 k2 => ?_, fun k k1 k2 => ?_, fun w hw => ?_, fun k k1 k2 => ?_, fun w w1 w2 => ?_, fun i hi => ?_, fun k k1 k2 => ?_⟩, ?_, ?_⟩
  · rw [o0, o1, o2, o 3 (by decide), o 4 (by decide)]; exact ⟨b1, b2, b3, b4⟩
  · rw [o k (by omega)]; exact c1 k k1 k2
  · rw [o0] at k1
    obtain ⟨z1, z2, z3, z4⟩ := c2 k k1 k2
    refine ⟨by rw [o _ (by omega)]; exact z1, by rw [o _ (by omega)]; exact z2, fun p hp => ⟨by rw [o _ (by omega)]; exact (z3 p hp).1, by rw [o _ (by omega)]; exact (z3 p hp).2⟩, fun w hw => by rw [o _ (by omega)]; exact z4 w hw⟩
  · rw [o2] at hw
    rw [o _ (by omega), o _ (by omega), o _ (by omega)]; exact c3 w hw
  · rw [o k (by omega)]; exact c4 k k1 k2
  · rw [o2] at w1
    exact ⟨by rw [o _ (by omega)]; exact (c5 w w1 w2).1, fun k hk => by rw [o _ (by omega)]; exact (c5 w w1 w2).2 k hk⟩
  · rw [o _ (by omega)]; exact c6 i hi
  · unfold ckS
    by_cases z : 431 + k = 431 + v
    · rw [if_pos z]; exact hn
    · rw [if_neg z]; exact c7 k k1 k2
  · rw [o0]; exact d
  · rw [o1]; exact e
end UNGG
