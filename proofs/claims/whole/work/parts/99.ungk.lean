section UNGK
variable {tp : List Nat} {ρ ρ' σ : Nat → Nat} {nS nK nm : Nat → List Nat} {h h' gc gc1 gm : Hp} {s ed ck : Nat}
/-- one MARK more -/
def mrS (ρ : Nat → Nat) : Nat → Nat := fun k => if k = 1 then ρ 1 + 1 else ρ k
def mrN (ρ : Nat → Nat) (nK : Nat → List Nat) (l : List Nat) : Nat → List Nat := fun i => if i = ρ 1 then l else nK i
theorem mrS_o {k : Nat} (hk : k ≠ 1) : mrS ρ k = ρ k := if_neg hk
theorem RgC.mark {l : List Nat} (h3 : ρ 1 < 3) (h0 : ρ 0 ≤ 5) (h8 : ρ 2 ≤ 8) (R : RgC h 142 ρ nS nK nm) (q : Same [142, 143] h h') (q1 : h'.1 142 1 = nI (ρ 1 + 1)) (q2 : ∀ j, j ≠ 1 → h'.1 142 j = h.1 142 j) (q3 : h'.2.1 142 = h.2.1 142) (q4 : h'.1 143 (5 + ρ 1) = nI (nmC l)) (q5 : ∀ j, j ≠ 5 + ρ 1 → h'.1 143 j = h.1 143 j) : RgC h' 142 (mrS ρ) nS (mrN ρ nK l) nm := by
  obtain ⟨⟨a1, a2, a3, a4, a5⟩, ⟨b1, b2, b3⟩, c, ⟨d1, d2⟩, e, ⟨f1, f2⟩, g⟩ := R
  have o : ∀ k, k ≠ 1 → mrS ρ k = ρ k := fun k => mrS_o
  have o1 : mrS ρ 1 = ρ 1 + 1 := rfl
  have i0 : ∀ c, c ≠ 142 → c ≠ 143 → h'.1 c = h.1 c := fun c hc hd => (q c (by simp only [List.mem_cons, List.not_mem_nil, or_false]; omega)).1
  have l0 : ∀ c, c ≠ 142 → c ≠ 143 → h'.2.1 c = h.2.1 c := fun c hc hd => (q c (by simp only [List.mem_cons, List.not_mem_nil, or_false]; omega)).2.1
  unfold RgC
  rw [o 0 (by decide), o1, o 2 (by decide), o 3 (by decide), o 4 (by decide), q2 0 (by decide), q2 2 (by decide), q2 11 (by decide), q3, i0 (142 + 2) (by decide) (by decide), i0 (142 + 3) (by decide) (by decide), l0 (142 + 4) (by decide) (by decide), i0 (142 + 5) (by decide) (by decide), i0 (142 + 6) (by decide) (by decide), i0 (142 + 7) (by decide) (by decide), i0 (142 + 8) (by decide) (by decide), i0 (142 + 9) (by decide) (by decide), ens_u (fun j _ _ => o j (by omega)), idl_u (fun j _ _ => o j (by omega))]
  refine ⟨⟨a1, q1, a3, a4, a5⟩, ⟨fun i hi => ?_, fun i hi => ?_, fun w hw => ?_⟩, fun k k1 k2 => ?_, ⟨fun k hk => ?_, d2⟩, fun w hw => ?_, ⟨fun w hw => ?_, f2⟩, fun i hi => ?_⟩
  · show h'.1 143 i = _
    rw [q5 i (by omega)]; exact b1 i hi
  · show h'.1 143 (5 + i) = _
    unfold mrN
    by_cases z : i = ρ 1
    · subst z; rw [if_pos rfl]; exact q4
    · rw [if_neg z, q5 _ (by omega)]; exact b2 i (by omega)
  · show h'.1 143 (8 + w) = _
    rw [q5 _ (by omega)]; exact b3 w hw
  · rw [o _ (by omega)]; exact c k k1 k2
  · rw [ahd_u (fun j _ _ => o j (by omega)) hk]; exact d1 k hk
  · rw [o _ (by omega), o _ (by omega), o _ (by omega)]; exact e w hw
  · rw [rds_u (fun j _ _ => o j (by omega)) hw]; exact f1 w hw
  · rw [mk_u (fun j _ _ => o j (by omega)) hi]; exact g i hi
end UNGK
