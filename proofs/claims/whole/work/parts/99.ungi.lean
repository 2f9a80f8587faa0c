section UNGI
variable {tp : List Nat} {ρ ρ' σ : Nat → Nat} {nS nK nm : Nat → List Nat} {h h' gc gm : Hp} {s ed ck : Nat}
/-- is the NAME told already -/
def oldB (tp : List Nat) (s : Nat) (ρ : Nat → Nat) (nS nK nm : Nat → List Nat) : Bool := decide (ixN nS (ρ 0) (nmT tp s) < ρ 0) || (decide (ixN nK (ρ 1) (nmT tp s) < ρ 1) || decide (ixN nm (ρ 2) (nmT tp s) < ρ 2))
theorem ix_ge {n k : Nat} (hk : k < n) (hn : n < 1000) : (0 : Int32) ≤ nI k := nI_le (a := 0) (by omega) (by omega)
theorem m_freshT {x : Nat} (O : SO tp s ρ nS nK nm ed ck) (M : SM tp s ρ nS nK nm ed ck gm) (hx : x < 32) : f_X13_fresh (nI x) gm = if isNm tp 900 s = false then some (0, mfF gm 1 s) else if oldB tp s ρ nS nK nm = true then some (0, mfF gm 3 s) else bnv (f_X13_next (sL gm 159 x (lN (nmM (nmT tp s))))) fun h18 => some (1, h18) := by
  obtain ⟨T, ⟨H, okS, okK⟩, -⟩ := O
  obtain ⟨h5, h3, h8, -⟩ := H.1
  obtain ⟨R0, R1, R2, R3⟩ := M.2.1
  have b3 : f_X13_bad 3 gm = some (0, mfF gm 3 s) := m_badT (k := 3) M.1
  unfold f_X13_fresh B_X13_fresh_58
  rw [m_isNameT M.1 M.2.2.1, bndS]
  cases hn : isNm tp 900 s
  · rw [if_pos (show nI false.toNat = 0 from rfl), if_pos rfl, show f_X13_bad 1 gm = some (0, mfF gm 1 s) from m_badT (k := 1) M.1, bndS, if_pos (show isZ 0 = true by decide)]
  · have hk := isNm_1 hn
    rw [if_neg (show ¬ nI true.toNat = 0 by decide), if_neg (show ¬ true = false by decide), show (0 : Int32).toNatClampNeg = 0 from rfl, R0 0 (by omega), show f_X13_find 16 (nI (ρ 0)) gm = _ from m_ixName (base := 16) R1 okS (by omega) M.1 hk, bndS]
    unfold oldB
    by_cases a : ixN nS (ρ 0) (nmT tp s) < ρ 0
    · rw [if_pos a, if_pos (ix_ge a (by omega)), decide_eq_true a, Bool.true_or, if_pos rfl, b3, bndS, if_pos (show isZ 0 = true by decide)]
    · rw [if_neg a, if_neg (show ¬ (0 : Int32) ≤ -1 by decide), decide_eq_false a, Bool.false_or, show (1 : Int32).toNatClampNeg = 1 from rfl, R0 1 (by omega), show f_X13_find 21 (nI (ρ 1)) gm = _ from m_ixName (base := 21) R2 okK (by omega) M.1 hk, bndS]
      by_cases b : ixN nK (ρ 1) (nmT tp s) < ρ 1
      · rw [if_pos b, if_pos (ix_ge b (by omega)), decide_eq_true b, Bool.true_or, if_pos rfl, b3, bndS, if_pos (show isZ 0 = true by decide)]
      · rw [if_neg b, if_neg (show ¬ (0 : Int32) ≤ -1 by decide), decide_eq_false b, Bool.false_or, show (2 : Int32).toNatClampNeg = 2 from rfl, R0 2 (by omega), show f_X13_find 24 (nI (ρ 2)) gm = _ from m_ixName (base := 24) R3 (fun w hw => (H.2.2.2.1 w hw).2.2.2.2) (by omega) M.1 hk, bndS]
        by_cases c : ixN nm (ρ 2) (nmT tp s) < ρ 2
        · rw [if_pos c, if_neg (show ¬ nI (ixN nm (ρ 2) (nmT tp s)) < 0 from nI_nlt (b := 0) (by omega) (by omega)), decide_eq_true c, if_pos rfl, b3, bndS, if_pos (show isZ 0 = true by decide)]
        · rw [if_neg c, if_pos (show (-1 : Int32) < 0 by decide), decide_eq_false c, if_neg (show ¬ false = true by decide), if_pos (inb_nI (by omega) (by decide)), clp (by omega), M.1.2.2.2.1 (tkQ_R.mp hk), lt_s1]
end UNGI
