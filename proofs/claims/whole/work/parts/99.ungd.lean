section UNGD
variable {tp : List Nat} {ρ σ : Nat → Nat} {nS nK nm : Nat → List Nat} {h h' gc gm : Hp} {s ed ck : Nat}
theorem SO.s1000 (O : SO tp s ρ nS nK nm ed ck) : s ≤ 1000 := by have := O.1.1; have := O.2.2.1; omega
/-- the next token, for both -/
theorem both_nx (O : SO tp s ρ nS nK nm ed ck) (C : SC tp s ρ nS nK nm ed ck gc) (M : SM tp s ρ nS nK nm ed ck gm) : ∃ gc' gm', f_X9_advance gc = some gc' ∧ f_X13_next gm = some gm' ∧ SO tp (tkB tp 900 (tkX tp 900 s)) ρ nS nK nm ed ck ∧ SC tp (tkB tp 900 (tkX tp 900 s)) ρ nS nK nm ed ck gc' ∧ SM tp (tkB tp 900 (tkX tp 900 s)) ρ nS nK nm ed ck gm' ∧ Same unC gc gc' ∧ unM gm gm' ∧ ∀ j, j ∉ [4, 10, 11, 12, 13, 14, 15] → gm'.1 155 j = gm.1 155 j := by
  obtain ⟨gc', e1, u1, C1⟩ := C.adv O.1 O.2.2.1
  obtain ⟨gm', e2, u2, u3, M1⟩ := M.nx O.1
  exact ⟨gc', gm', e1, e2, tkB_ok O.1 O, C1, M1, u1, u2, u3⟩
/-- the close -/
theorem rd_close (hs : s ≤ 900) (O : SO tp s ρ nS nK nm ed ck) (C : SC tp s ρ nS nK nm ed ck gc) (M : SM tp s ρ nS nK nm ed ck gm) : bad2 gc gm (f_X6_readClose gc) (f_X13_sign 59 gm) ∨ good2 tp s gc gm (f_X6_readClose gc) (f_X13_sign 59 gm) := by
  rw [c_close C.1, m_signT M.1]
  by_cases h1 : tkQ tp 900 s = 3
  · obtain ⟨gc', gm', e1, e2, O1, C1, M1, u1, u2, u3⟩ := both_nx O C M
    rw [if_pos h1, if_pos h1, e1, e2, bnvS, bnvS]
    exact Or.inr ⟨_, ρ, nS, nK, nm, ed, ck, gc', gm', rfl, rfl, tkB_ge (by have := O.2.2.1; omega), O1, C1, M1, u3 18 (by decide), u1, u2⟩
  · rw [if_neg h1, if_neg h1]
    exact Or.inl (bad_here O.s1000 (by omega))
end UNGD
