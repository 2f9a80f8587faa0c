section UNGJ
variable {tp : List Nat} {ρ ρ' σ : Nat → Nat} {nS nK nm : Nat → List Nat} {h h' gc gc1 gm : Hp} {s ed ck : Nat}
theorem c_newName {x : Nat} (O : SO tp s ρ nS nK nm ed ck) (ea : f_X9_advance gc = some gc1) (C : SC tp s ρ nS nK nm ed ck gc1) (hx : x < 16) : f_X6_readNewName (nI x) gc = if isNm tp 900 s = false then some (0, gfF gc1 1 s) else if oldB tp s ρ nS nK nm = true then some (0, gfF gc1 3 s) else bnv (f_X9_advance (sI gc1 143 x (nI (nmC (nmT tp s))))) fun h15 => some (1, h15) := by
  obtain ⟨T, ⟨H, okS, okK⟩, -⟩ := O
  obtain ⟨h5, h3, h8, -⟩ := H.1
  obtain ⟨⟨R0, R1, R2, -⟩, ⟨N0', N1, N2⟩, -⟩ := C.2.1
  have b3 : f_X6_refuse 3 gc1 = some (0, gfF gc1 3 s) := c_refuse (k := 3) C.1
  have i8 : isO 8 142 = true := by decide
  have h4 := C.2.2.1
  have B1 : B_X6_readNewName_71 (nI x) 1 gc1 = some (0, gfF gc1 3 s) := by
    unfold B_X6_readNewName_71
    rw [if_neg (show ¬ (1 : Int32) = 0 by decide), b3, bndS, if_pos (show isZ 0 = true by decide)]
  unfold f_X6_readNewName
  rw [ea, bnvS, c_isNameHere C.1, bndS]
  cases hn : isNm tp 900 s
  · rw [if_pos (show nI false.toNat = 0 from rfl), if_pos rfl, show f_X6_refuse 1 gc1 = some (0, gfF gc1 1 s) from c_refuse (k := 1) C.1, bndS, if_pos (show isZ 0 = true by decide)]
  · have hk := isNm_1 hn
    rw [if_neg (show ¬ nI true.toNat = 0 by decide), if_neg (show ¬ true = false by decide), h4, lt_s1, if_pos i8, R0, show f_X6_indexOfName 0 (nI (ρ 0)) gc1 = _ from c_ixName (base := 0) (t := 142) i8 (fun w hw => by rw [Nat.zero_add]; exact N0' w hw) okS (by omega) h4 C.1 hk, bndS]
    unfold oldB
    by_cases a : ixN nS (ρ 0) (nmT tp s) < ρ 0
    · rw [if_pos a, if_pos (ix_ge a (by omega)), decide_eq_true a, Bool.true_or, if_pos rfl, B1]
    · rw [if_neg a, if_neg (show ¬ (0 : Int32) ≤ -1 by decide), decide_eq_false a, Bool.false_or, h4, lt_s1, if_pos i8, R1, show f_X6_indexOfName 5 (nI (ρ 1)) gc1 = _ from c_ixName (base := 5) (t := 142) i8 N1 okK (by omega) h4 C.1 hk, bndS]
      by_cases b : ixN nK (ρ 1) (nmT tp s) < ρ 1
      · rw [if_pos b, if_pos (ix_ge b (by omega)), decide_eq_true b, Bool.true_or, if_pos rfl, B1]
      · rw [if_neg b, if_neg (show ¬ (0 : Int32) ≤ -1 by decide), decide_eq_false b, Bool.false_or, h4, lt_s1, if_pos i8, R2, show f_X6_indexOfName 8 (nI (ρ 2)) gc1 = _ from c_ixName (base := 8) (t := 142) i8 N2 (fun w hw => (H.2.2.2.1 w hw).2.2.2.2) (by omega) h4 C.1 hk, bndS]
        by_cases c : ixN nm (ρ 2) (nmT tp s) < ρ 2
        · rw [if_pos c, if_neg (show ¬ nI (ixN nm (ρ 2) (nmT tp s)) < 0 from nI_nlt (b := 0) (by omega) (by omega)), decide_eq_true c, if_pos rfl, B1]
        · rw [if_neg c, if_pos (show (-1 : Int32) < 0 by decide), decide_eq_false c, if_neg (show ¬ false = true by decide)]
          unfold B_X6_readNewName_71
          rw [if_pos (show (0 : Int32) = 0 from rfl), h4, lt_s1, if_pos i8, if_pos (inb_nI (by omega) (by decide)), clp (by omega), (C.1.2.2.2.1 hk).1, lt_s1]
end UNGJ
