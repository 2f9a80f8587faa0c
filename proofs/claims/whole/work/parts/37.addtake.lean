section AT
variable {tp : List Nat} {σ τ : Nat → Nat} {nm : Nat → List Nat} {K : Im} {fd : List Nat} {fl : Nat} {tn : Option Tn} {h h' : Hp}
theorem aln_cl : ∀ n : Fin 10, aln (20 + 1 + 2 * n.1 + 1) = 24 := by decide
theorem lit_nI (n : Nat) : (OfNat.ofNat n : Int32) = nI n := rfl
/-- the numbers with a clause more -/
def addS (σ : Nat → Nat) : Nat → Nat := fun k => if k = 462 then σ 462 + 1 else if 463 + 25 * σ 462 ≤ k ∧ k < 488 + 25 * σ 462 then σ (437 + (k - (463 + 25 * σ 462))) else σ k
theorem addS_lo (σ : Nat → Nat) {k : Nat} (hk : k < 462) : addS σ k = σ k := by
  unfold addS
  rw [if_neg (by omega), if_neg (by omega)]
theorem addS_n (σ : Nat → Nat) : addS σ 462 = σ 462 + 1 := if_pos rfl
theorem addS_in (σ : Nat → Nat) {k : Nat} (hk : k < 25) : addS σ (463 + 25 * σ 462 + k) = σ (437 + k) := by
  unfold addS
  rw [if_neg (by omega), if_pos (by omega)]
  congr 1
  omega
theorem addS_out (σ : Nat → Nat) {k : Nat} (h1 : k ≠ 462) (hk : k < 463 + 25 * σ 462 ∨ 488 + 25 * σ 462 ≤ k) : addS σ k = σ k := by
  unfold addS
  rw [if_neg h1, if_neg (by omega)]
theorem st_add (hI : Inv h) : ∃ v h1 h2, f_X12_add h = some (v, h1) ∧ f_X13_add h1 = some (v, h2) ∧ Inv h2 := by
  obtain ⟨tp, σ, nm, K, fd, fl, tn, hA, hC, hM⟩ := hI
  have hn : σ 462 ≤ 10 := hA.2.1.2.2.1
  have hT := hA.2.1.2.1
  obtain ⟨-, hB⟩ := hA.2.1.2.2
  obtain ⟨c1, ⟨c2, c3⟩, c4, c5⟩ := hC.2.1
  by_cases h10 : σ 462 = 10
  · have m1 := hM.keep (th_Eq 0)
    refine ⟨-1, h, sI h 155 0 0, ?_, ?_, tp, σ, nm, K, fd, fl, tn, hA, hC.lo hA (th_Lo 0), m1⟩
    · unfold f_X12_add; rw [c4, h10, if_neg (by decide)]
    · unfold f_X13_add; rw [lt_s0, lc (n := 462) (by decide), m1.2.1 462 (by decide), h10, if_pos (show nI 10 = 10 from rfl)]
  · have hlt : σ 462 < 10 := by omega
    have al : aln (20 + 1 + 2 * σ 462 + 1) = 24 := aln_cl ⟨σ 462, hlt⟩
    obtain ⟨h1, eh1⟩ : ∃ q, q = sI (sI (cI h 19 0 (20 + 1 + 2 * σ 462 + 1) 0 (σ 437)) (20 + 1 + 2 * σ 462) 1 (nI (σ 437))) 6 3 (nI (σ 462 + 1)) := ⟨_, rfl⟩
    have f1 : f_X12_add h = some (nI (σ 462), h1) := by
      have c2' : h.1 18 1 = nI (σ 437) := c2
      have rc := row_copy (d := 20 + 1 + 2 * σ 462) (n := σ 437) c2' (by rw [al]; exact hT.1) (by show _ ≤ 24; exact hT.1) (by rw [al]; decide)
      have z1 : (sI (cI h (18 + 1) 0 (20 + 1 + 2 * σ 462 + 1) 0 (σ 437)) (20 + 1 + 2 * σ 462) 1 (nI (σ 437))).1 6 3 = nI (σ 462) := by
        rw [sI_ne1 (by omega), cI_ne1 (by omega), c4]
      unfold f_X12_add
      rw [c4, if_pos (show nI (σ 462) < 10 from nI_lt hlt (by decide)), if_pos (inb_nI hlt (by decide)), nI_clamp (by omega), bnv_s rc, lt_s0, z1, nI_1]
      rw [← eh1, show h1.1 6 3 = nI (σ 462 + 1) by rw [eh1, sI_s], nI_pred]
    have s1 : Same [20 + 1 + 2 * σ 462, 20 + 1 + 2 * σ 462 + 1, 6] h h1 := by
      rw [eh1]
      exact ((Same.ofCI (by simp)).tr (Same.ofI (by simp))).tr (Same.ofI (by simp))
    have hi1 : Hi h h1 := fun a ha => s1 a (by simp; omega)
    have hA2 : AbOk tp (addS σ) nm K fd fl tn := by
      refine hA.sig (fun k hk => addS_lo σ (by omega)) ?_ (by rw [addS_n]; omega) ?_
      · exact hT.cong (addS_lo σ (by omega)) (fun k hk => addS_lo σ (by omega))
      · intro c hc
        rw [addS_n] at hc
        by_cases hcn : c = σ 462
        · subst hcn
          exact hT.cong (addS_lo σ (by omega)) (fun k hk => addS_in σ hk)
        · exact (hB c (by omega)).cong (addS_lo σ (by omega)) (fun k hk => addS_out σ (by omega) (by omega))
    have cr1 : CR tp (addS σ) nm K fd fl tn h1 := by
      refine hC.sig hA (fun k hk => addS_lo σ (by omega)) ?_ ?_ ?_ ?_ ?_ ?_
      · intro a ha hsc h3
        by_cases ha6 : a = 6
        · subst ha6
          exact ⟨by rw [if_pos rfl], by rw [eh1]; rfl⟩
        · have := s1 a (by simp; omega)
          exact ⟨by rw [if_neg ha6]; exact this.1, this.2.1⟩
      · rw [(s1 123 (by simp; omega)).1]; exact hC.2.2.2.2.2.2
      · rw [(s1 18 (by simp; omega)).1, addS_lo σ (by omega)]; exact c2
      · intro k hk
        rw [addS_lo σ (by omega)] at hk
        rw [(s1 19 (by simp; omega)).1, addS_lo σ (by have := hT.1; omega)]
        exact c3 k hk
      · rw [eh1, sI_s, addS_n]
      · intro c hc
        rw [addS_n] at hc
        by_cases hcn : c = σ 462
        · subst hcn
          have e0 : addS σ (463 + 25 * σ 462) = σ 437 := addS_in σ (k := 0) (by omega)
          refine ⟨?_, fun k hk => ?_⟩
          · rw [eh1, sI_ne1 (by omega), show 21 + 2 * σ 462 = 20 + 1 + 2 * σ 462 by omega, sI_s, e0]
          · rw [e0] at hk
            have hk24 := hT.1
            rw [eh1, sI_ne1 (by omega), sI_ne1 (by omega), show 22 + 2 * σ 462 = 20 + 1 + 2 * σ 462 + 1 by omega, cI_at, pk_cpy_in (by omega) (by omega), show 464 + 25 * σ 462 + k = 463 + 25 * σ 462 + (1 + k) by omega, addS_in σ (by omega), show 0 + (k - 0) = k by omega, c3 k hk, show 437 + (1 + k) = 438 + k by omega]
        · have hb := hB c (by omega)
          have e0 : addS σ (463 + 25 * c) = σ (463 + 25 * c) := addS_out σ (by omega) (by omega)
          rw [(s1 (21 + 2 * c) (by simp; omega)).1, (s1 (22 + 2 * c) (by simp; omega)).1, e0]
          have := c5 c (by omega)
          rw [show 6 + 15 + 2 * c = 21 + 2 * c by omega, show 6 + 16 + 2 * c = 22 + 2 * c by omega] at this
          refine ⟨this.1, fun k hk => ?_⟩
          have h24 := hb.1
          rw [addS_out σ (by omega) (by omega)]
          exact this.2 k hk
    have m1 : MR tp σ nm K fd fl tn (sI h1 155 0 0) := (hM.hi hi1).keep (th_Eq 0)
    have v3 : (463 : Int32) + 25 * nI (σ 462) = nI (463 + 25 * σ 462) := by
      rw [lit_nI 463, lit_nI 25, pk_mul, nI_add]
    obtain ⟨h2, e2, p2, q2⟩ := loop2 (F := F_X13_add_38 (nI (463 + 25 * σ 462)) (fun h8 => lt (sI h8 157 ((462 : Int32).toNatClampNeg) ((h8.1 157 ((462 : Int32).toNatClampNeg)) + 1)) fun h9 => some ((h9.1 157 ((462 : Int32).toNatClampNeg)) - 1, h9)))
      (k := fun h8 => lt (sI h8 157 ((462 : Int32).toNatClampNeg) ((h8.1 157 ((462 : Int32).toNatClampNeg)) + 1)) fun h9 => some ((h9.1 157 ((462 : Int32).toNatClampNeg)) - 1, h9)) 25
      (fun i g => Same [157] (sI h1 155 0 0) g ∧ ∀ k, k < 713 → g.1 157 k = nI (if 463 + 25 * σ 462 ≤ k ∧ k < 463 + 25 * σ 462 + i then σ (437 + (k - (463 + 25 * σ 462))) else σ k))
      (fun self g hg => by unfold F_X13_add_38; rw [if_pos (by decide)])
      (fun self i g hi hg => by
        refine ⟨sI g 157 (463 + 25 * σ 462 + i) (nI (σ (437 + i))), ?_, hg.1.tr (Same.ofI (by decide)), fun k hk => ?_⟩
        · unfold F_X13_add_38
          rw [if_neg (show ¬ (25 : Int32) ≤ nI i from nI_ge hi (by decide)), lit_nI 437, nI_add, nI_add, if_pos (inb_nI (by omega) (by decide)), if_pos (inb_nI (by omega) (by decide)), lt_s0, nI_clamp (by omega), nI_clamp (by omega), hg.2 (437 + i) (by omega), if_neg (by omega), nI_1]
        · by_cases hk2 : k = 463 + 25 * σ 462 + i
          · subst hk2
            rw [sI_s, if_pos (by omega)]
            congr 2
            omega
          · rw [sI_nk1 hk2, hg.2 k hk]
            by_cases hk3 : 463 + 25 * σ 462 ≤ k ∧ k < 463 + 25 * σ 462 + i
            · rw [if_pos hk3, if_pos (by omega)]
            · rw [if_neg hk3, if_neg (by omega)])
      (sI h1 155 0 0) ⟨Same.rf, fun k hk => by rw [if_neg (by omega)]; exact m1.2.1 k hk⟩ (by decide)
    have e462 : h2.1 157 462 = nI (σ 462) := by rw [q2 462 (by decide), if_neg (by omega)]
    refine ⟨nI (σ 462), h1, sI h2 157 462 (nI (σ 462 + 1)), f1, ?_, tp, addS σ, nm, K, fd, fl, tn, hA2, ?_, ?_⟩
    · unfold f_X13_add
      rw [lt_s0, lc (n := 462) (by decide), m1.2.1 462 (by decide), if_neg (show ¬ nI (σ 462) = 10 from fun z => h10 ((nI_eq (by omega) (by decide)).mp z)), lt_s0, v3]
      rw [show ((462 : Int32).toNatClampNeg) = 462 from lc (n := 462) (by decide)] at e2
      rw [e2, lt_s0, e462, nI_1, sI_s, nI_pred]
    · exact cr1.lo hA2 ((th_Lo 0).tr ((p2.lo (by decide)).tr ((Same.ofI (X := [157]) (by decide)).lo (by decide))))
    · refine m1.sig (fun k hk => addS_lo σ (by omega)) (p2.tr (Same.ofI (by decide))) (fun k hk => ?_)
      by_cases hk2 : k = 462
      · subst hk2
        rw [sI_s, addS_n]
      · rw [sI_nk1 hk2, q2 k hk]
        unfold addS
        rw [if_neg hk2, show 463 + 25 * σ 462 + 25 = 488 + 25 * σ 462 by omega]
end AT
