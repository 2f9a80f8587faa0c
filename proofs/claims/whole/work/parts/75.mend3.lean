section TU
variable {tp : List Nat} {σ τ : Nat → Nat} {nm nm2 : Nat → List Nat} {K : Im} {fd : List Nat} {fl : Nat} {tn : Option Tn} {h h' : Hp}
/-- the places stand along the row -/
def PL (σ : Nat → Nat) (k d P : Nat) (h : Hp) : Prop := ∀ i, i ≤ d → h.1 177 i = nI (TT σ k i (up (σ 2) d P i))
theorem m_mends {k n : Nat} (hS : SgOk σ nm) (s10 : σ 437 ≤ 10) (s1 : 1 ≤ σ 437) (k3 : k ≤ 3) (hn : n = σ 437 + k) (S0 : 0 < σ 2) (hM : MR tp σ nm K fd fl tn h) (R : RB σ (σ 3) (σ 4) h) : ∃ h', FS h h' ∧ ((∃ j, j < σ 2 ^ n ∧ QM σ k n j ∧ (∀ i, i < j → ¬ QM σ k n i) ∧ f_X13_mends (nI k) h = some (1, h') ∧ RF σ (σ 3) (σ 4) n j h') ∨ ((∀ j, j < σ 2 ^ n → ¬ QM σ k n j) ∧ f_X13_mends (nI k) h = some (0, h'))) := by
  have H := hS.1
  have h8 := H.1.2.2.1
  obtain ⟨-, -, -, e3, e3', e4, e4'⟩ := H.1
  have rl : ∀ i, i < σ 437 → σ (438 + i) < σ 2 := fun i hi => by
    have := hS.2.1.2 i hi
    rw [show 437 + 1 + i = 438 + i by omega] at this
    exact this
  obtain ⟨y0, f0, F0, A0, a43, a44, a73⟩ := m_begin (n := n) R (by omega)
  obtain ⟨y1, ey1⟩ : ∃ z, z = sI y0 177 0 1 := ⟨_, rfl⟩
  have F1 : FS h y1 := by rw [ey1]; exact F0.tr (FS.ofI (by decide))
  have fe : f_X13_mends (nI k) h = itr1 (F_X13_mends_21 (nI k) (fun h44 => some (1, h44)) (fun h45 => some (0, h45))) N0 y1 := by
    unfold f_X13_mends
    rw [li_437, clp (by omega), hM.2.1 437 (by omega), nI_add, ← hn, f0, bnvS, lt_s0, ey1]
    rfl
  have pw1 : ∀ i, 1 ≤ σ 2 ^ i := fun i => Nat.pow_pos S0
  have big : σ 2 ^ n ≤ 549755813888 := pow_le_big h8 (by omega)
  obtain ⟨Ac, eAc⟩ : ∃ Ac : Nat → Prop, Ac = fun j => QM σ k n j := ⟨_, rfl⟩
  have L : (∃ j h', j < σ 2 ^ n ∧ QM σ k n j ∧ (∀ i, i < j → ¬ QM σ k n i) ∧ itr1 (F_X13_mends_21 (nI k) (fun h44 => some (1, h44)) (fun h45 => some (0, h45))) N0 y1 = some (1, h') ∧ FS h h' ∧ RF σ (σ 3) (σ 4) n j h') ∨ ((∀ j, j < σ 2 ^ n → ¬ QM σ k n j) ∧ ∃ h', itr1 (F_X13_mends_21 (nI k) (fun h44 => some (1, h44)) (fun h45 => some (0, h45))) N0 y1 = some (0, h') ∧ FS h h') := by
    refine itr1_loop (F := F_X13_mends_21 (nI k) (fun h44 => some (1, h44)) (fun h45 => some (0, h45))) (fun q => (∃ j h', j < σ 2 ^ n ∧ QM σ k n j ∧ (∀ i, i < j → ¬ QM σ k n i) ∧ q = some (1, h') ∧ FS h h' ∧ RF σ (σ 3) (σ 4) n j h') ∨ ((∀ j, j < σ 2 ^ n → ¬ QM σ k n j) ∧ ∃ h', q = some (0, h') ∧ FS h h')) (fun m y => (∃ d t P J, m = (σ 2 ^ n - J) * 300 + (if t = σ 2 then 200 + d else 50 + (n - d)) ∧ RA σ (σ 3) (σ 4) d P y ∧ PL σ k d P y ∧ y.1 155 43 = nI d ∧ y.1 155 44 = nI n ∧ y.1 173 d = nI t ∧ d < n ∧ t ≤ σ 2 ∧ P < σ 2 ^ d ∧ J = (P * σ 2 + t) * σ 2 ^ (n - 1 - d) ∧ (∀ i, i < J → ¬ QM σ k n i) ∧ FS h y) ∨ (∃ P, m = (σ 2 ^ n - P) * 300 + 10 ∧ RF σ (σ 3) (σ 4) n P y ∧ PL σ k n P y ∧ P < σ 2 ^ n ∧ (∀ i, i < P → ¬ QM σ k n i) ∧ FS h y) ∨ (m = 0 ∧ y.1 155 43 = -1 ∧ (∀ j, j < σ 2 ^ n → ¬ QM σ k n j) ∧ FS h y)) ?_ ((σ 2 ^ n - 0) * 300 + (50 + (n - 0))) y1 N0 (by have := N0_big; have e : N0 = 1000000000000000000000000000000 := rfl; omega) ?_
    · intro m self y hy
      rcases hy with ⟨d, t, P, J, hm, A, L, b43, b44, b73, hd, ht, hP, hJ, no, Fy⟩ | ⟨P, hm, A, L, hP, no, Fy⟩ | ⟨hm, b43, no, Fy⟩
      · have Ry := R.fs Fy
        have My := hM.fs Fy
        obtain ⟨y2, ey2⟩ : ∃ q, q = sI y 173 d (nI (t + 1)) := ⟨_, rfl⟩
        have F2 : FS y y2 := by rw [ey2]; exact FS.ofI (by decide)
        have R2 := Ry.fs F2
        have M2 := My.fs F2
        have A2 : RA σ (σ 3) (σ 4) d P y2 := by
          rw [ey2]
          refine ⟨fun i hi => ?_, fun i hi b hb => ?_⟩
          · rw [sI_ne1 (by decide), sI_nk1 (by omega)]; exact A.1 i hi
          · rw [sI_ne1 (by decide)]; exact A.2 i hi b hb
        have L2 : PL σ k d P y2 := fun i hi => by rw [ey2, sI_ne1 (by decide)]; exact L i hi
        have l2d := L2 d (Nat.le_refl _)
        rw [up_self] at l2d
        have c43 : y2.1 155 43 = nI d := by rw [ey2, sI_ne1 (by decide)]; exact b43
        have c44 : y2.1 155 44 = nI n := by rw [ey2, sI_ne1 (by decide)]; exact b44
        obtain ⟨Q, eQ⟩ : ∃ Q, Q = σ 2 ^ (n - 1 - d) := ⟨_, rfl⟩
        have Q1 : 1 ≤ Q := by rw [eQ]; exact pw1 _
        have eSn : σ 2 ^ n = σ 2 ^ (d + 1) * Q := by rw [eQ, ← Nat.pow_add]; congr 1; omega
        have PSt : t < σ 2 → P * σ 2 + t + 1 ≤ σ 2 ^ (d + 1) := fun h1 => by
          rw [Nat.pow_succ]
          have : (P + 1) * σ 2 ≤ σ 2 ^ d * σ 2 := Nat.mul_le_mul_right _ (by omega)
          rw [Nat.add_mul, Nat.one_mul] at this
          omega
        have JQ : (P * σ 2 + t + 1) * Q = J + Q := by rw [hJ, ← eQ, Nat.add_mul, Nat.one_mul]
        have head : F_X13_mends_21 (nI k) (fun h44 => some (1, h44)) (fun h45 => some (0, h45)) self y = (if nI t < nI (σ 2) then bnd (f_X13_placesBehind (nI (TT σ k d P)) (nI t) (nI d) (nI k) y2) fun v13 h12 => (if v13 = 0 then self h12 else if inb ((h12.1 155 43) + 1) 15 = true then lt (sI h12 177 (((h12.1 155 43) + 1).toNatClampNeg) v13) fun h16 => bnv (f_X13_step (nI t) h16) fun h17 => (if (h17.1 155 44) ≤ (h17.1 155 43) then self h17 else if inb (h17.1 155 43) 14 = true then lt (sI h17 173 ((h17.1 155 43).toNatClampNeg) 0) fun h20 => self h20 else none) else none) else lt (sI y2 155 43 (nI d - 1)) fun h21 => self h21) := by
          unfold F_X13_mends_21
          rw [b43, b44, if_neg (nI_pos (by omega)), if_neg (fun z => by have := (nI_eq (by omega) (by omega)).mp z; omega), if_pos (inb_nI (by omega) (by decide)), lt_s0, if_pos (inb_nI (by omega) (by decide)), if_pos (inb_nI (by omega) (by decide)), lt_s0, nI_clamp (by omega), b73, nI_1, ← ey2, li_2, clp (by omega), M2.2.1 2 (by omega), c43, if_pos (inb_nI (by omega) (by decide)), nI_clamp (by omega), l2d]
        rw [head]
        by_cases h1 : t < σ 2
        · have tl := TT_lt s10 k d P
          rw [if_pos (nI_lt h1 (by omega)), m_placesBehind M2.2.1 H s10 h1 tl k3 (by omega) rl, bndS, ← TT_s h1]
          have PS := PSt h1
          have pl2 := TT_lt s10 k (d + 1) (P * σ 2 + t)
          have Jn : J + Q ≤ σ 2 ^ n := by
            rw [← JQ, eSn]
            exact Nat.mul_le_mul_right _ PS
          by_cases hz : TT σ k (d + 1) (P * σ 2 + t) = 0
          · right
            rw [hz, if_pos (show nI 0 = 0 from rfl)]
            refine ⟨(σ 2 ^ n - (J + Q)) * 300 + (if t + 1 = σ 2 then 200 + d else 50 + (n - d)), y2, ?_, Or.inl ⟨d, t + 1, P, J + Q, rfl, A2, L2, c43, c44, by rw [ey2, sI_s], hd, by omega, hP, by rw [← JQ, eQ]; rfl, fun i hi => ?_, Fy.tr F2⟩, rfl⟩
            · rw [hm]
              have t0 : ¬ t = σ 2 := by omega
              rw [if_neg t0]
              by_cases zz : t + 1 = σ 2
              · rw [if_pos zz]; omega
              · rw [if_neg zz]; omega
            · by_cases hi2 : i < J
              · exact no i hi2
              · intro hq
                apply hq.1
                have upk : up (σ 2) n i (d + 1) = P * σ 2 + t := by
                  unfold up
                  rw [show n - (d + 1) = n - 1 - d by omega, ← eQ]
                  have := in_sub (S := σ 2) (m := n - 1 - d) (P := P * σ 2 + t) (k := i) (by rw [← hJ]; omega) (by rw [← eQ, JQ]; omega)
                  rw [← eQ] at this
                  exact this
                have gn : gr σ k (d + 1) (P * σ 2 + t) = none := by
                  cases hg : gr σ k (d + 1) (P * σ 2 + t) with
                  | none => rfl
                  | some t' =>
                    have := ((TT_gr S0 k (d + 1) (P * σ 2 + t)).2 t' hg).1
                    rw [hz, Nat.zero_testBit] at this
                    cases this
                have := gr_dead S0 (d := d + 1) (by rw [upk]; exact gn) (n - (d + 1)) (by omega)
                rw [show d + 1 + (n - (d + 1)) = n by omega, up_self] at this
                exact this
          · rw [if_neg (show ¬ nI (TT σ k (d + 1) (P * σ 2 + t)) = 0 from fun z => hz ((nI_eq (b := 0) (by omega) (by omega)).mp z)), c43, nI_1, if_pos (inb_nI (by omega) (by decide)), lt_s0, nI_clamp (by omega)]
            obtain ⟨y3, ey3⟩ : ∃ q, q = sI y2 177 (d + 1) (nI (TT σ k (d + 1) (P * σ 2 + t))) := ⟨_, rfl⟩
            rw [← ey3]
            have F3 : FS y2 y3 := by rw [ey3]; exact FS.ofI (by decide)
            have A3 : RA σ (σ 3) (σ 4) d P y3 := by
              rw [ey3]
              refine ⟨fun i hi => ?_, fun i hi b hb => ?_⟩
              · rw [sI_ne1 (by decide), sI_ne1 (by decide)]; exact A2.1 i hi
              · rw [sI_ne1 (by decide)]; exact A2.2 i hi b hb
            obtain ⟨y4, f4, F4, A4, d43, d44, d77⟩ := m_step (w := t) (R2.fs F3) A3 H (by omega) (by omega) (by omega) (by omega) h1 (by rw [ey3, sI_ne1 (by decide)]; exact c43) (by rw [ey3, sI_ne1 (by decide), ey2, sI_s])
            have d44' : y4.1 155 44 = nI n := by rw [d44, ey3, sI_ne1 (by decide)]; exact c44
            have L4 : PL σ k (d + 1) (P * σ 2 + t) y4 := fun i hi => by
              rw [d77, ey3]
              by_cases hi2 : i = d + 1
              · rw [hi2, sI_s, up_self]
              · rw [sI_nk1 hi2, up_lo h1 (by omega)]
                exact L2 i (by omega)
            have Fy4 : FS h y4 := ((Fy.tr F2).tr F3).tr F4
            rw [f4, bnvS, d43, d44']
            by_cases h2 : d + 1 = n
            · right
              have q1 : Q = 1 := by rw [eQ, show n - 1 - d = 0 by omega, Nat.pow_zero]
              have J1 : J = P * σ 2 + t := by rw [hJ, ← eQ, q1, Nat.mul_one]
              rw [h2] at A4 L4 d43 PS
              refine ⟨(σ 2 ^ n - (P * σ 2 + t)) * 300 + 10, y4, ?_, Or.inr (Or.inl ⟨P * σ 2 + t, rfl, ⟨A4, d43, d44'⟩, L4, by omega, by rw [← J1]; exact no, Fy4⟩), by rw [if_pos (nI_le (by omega) (by omega))]⟩
              rw [hm, J1, if_neg (by omega)]
              omega
            · right
              refine ⟨(σ 2 ^ n - J) * 300 + (if 0 = σ 2 then 200 + (d + 1) else 50 + (n - (d + 1))), sI y4 173 (d + 1) (nI 0), ?_, Or.inl ⟨d + 1, 0, P * σ 2 + t, J, rfl, ?_, ?_, ?_, ?_, sI_s, by omega, by omega, by omega, ?_, no, Fy4.tr (FS.ofI (by decide))⟩, ?_⟩
              · rw [hm, if_neg (by omega), if_neg (by omega)]
                omega
              · refine ⟨fun i hi => ?_, fun i hi b hb => ?_⟩
                · rw [sI_ne1 (by decide), sI_nk1 (by omega)]; exact A4.1 i hi
                · rw [sI_ne1 (by decide)]; exact A4.2 i hi b hb
              · exact fun i hi => by rw [sI_ne1 (by decide)]; exact L4 i hi
              · rw [sI_ne1 (by decide)]; exact d43
              · rw [sI_ne1 (by decide)]; exact d44'
              · rw [hJ, Nat.add_zero, show n - 1 - d = (n - 1 - (d + 1)) + 1 by omega, Nat.pow_succ, Nat.mul_assoc, Nat.mul_comm (σ 2 ^ _) (σ 2)]
              · rw [if_neg (nI_ge (by omega) (by omega)), if_pos (inb_nI (by omega) (by decide)), lt_s0, nI_clamp (by omega)]
                rfl
        · have h2 : t = σ 2 := by omega
          right
          rw [if_neg (nI_nlt (by omega) (by omega)), lt_s0]
          rw [h2, if_pos rfl] at hm
          cases d with
          | zero =>
            rw [Nat.pow_zero] at hP
            have eJ : J = σ 2 ^ n := by
              rw [hJ, show P = 0 by omega, Nat.zero_mul, Nat.zero_add, h2, Nat.sub_zero, show n = (n - 1) + 1 by omega, Nat.pow_succ, Nat.add_sub_cancel, Nat.mul_comm]
            refine ⟨0, sI y2 155 43 (nI 0 - 1), by omega, Or.inr (Or.inr ⟨rfl, by rw [sI_s]; rfl, by rw [← eJ]; exact no, (Fy.tr F2).tr (FS.of55 (Or.inl rfl))⟩), rfl⟩
          | succ d =>
            have dl := dgt_lt S0 (d + 1) P d
            have dv : dgt (σ 2) (d + 1) P d = P % σ 2 := by
              unfold dgt
              rw [show d + 1 - 1 - d = 0 by omega, Nat.pow_zero, Nat.div_one]
            have pd := Nat.div_add_mod P (σ 2)
            refine ⟨(σ 2 ^ n - J) * 300 + (if dgt (σ 2) (d + 1) P d + 1 = σ 2 then 200 + d else 50 + (n - d)), sI y2 155 43 (nI d), ?_, Or.inl ⟨d, dgt (σ 2) (d + 1) P d + 1, P / σ 2, J, rfl, ?_, ?_, sI_s, ?_, ?_, by omega, by omega, ?_, ?_, no, (Fy.tr F2).tr (FS.of55 (Or.inl rfl))⟩, by rw [nI_pred]⟩
            · rw [hm]
              by_cases z : dgt (σ 2) (d + 1) P d + 1 = σ 2
              · rw [if_pos z]; omega
              · rw [if_neg z]; omega
            · have A3 := RA.up A2
              refine ⟨fun i hi => ?_, fun i hi b hb => ?_⟩
              · rw [sI_ne1 (by decide), sI_ne1 (by decide)]; exact A3.1 i hi
              · rw [sI_ne1 (by decide)]; exact A3.2 i hi b hb
            · exact fun i hi => by rw [sI_ne1 (by decide), up_up hi]; exact L2 i (by omega)
            · rw [sI_nk1 (by decide)]; exact c44
            · rw [sI_ne1 (by decide)]; exact (A2.1 d (by omega)).2
            · exact Nat.div_lt_of_lt_mul (by rw [← pwS]; exact hP)
            · rw [hJ, h2, dv, ← Nat.add_assoc, Nat.mul_comm (P / σ 2), pd, show n - 1 - d = (n - 1 - (d + 1)) + 1 by omega, Nat.pow_succ, show P * σ 2 + σ 2 = (P + 1) * σ 2 by rw [Nat.add_mul, Nat.one_mul], Nat.mul_assoc, Nat.mul_comm (σ 2) (σ 2 ^ _)]
      · have Ry := R.fs Fy
        have My := hM.fs Fy
        have lp := L n (Nat.le_refl _)
        rw [up_self] at lp
        have ma := m_acc (x1 := nI k) (k1 := fun h44 => some (1, h44)) (k0 := fun h45 => some (0, h45)) (self := self) (k := k) My.2.1 Ry A H (by omega) (by omega) S0 s10 lp
        rw [ma]
        by_cases hq : QM σ k n P
        · left; left
          exact ⟨P, y, hP, hq, no, by rw [if_pos ((acM_QM S0 hn).mpr hq)], Fy, A⟩
        · right
          rw [if_neg (fun z => hq ((acM_QM S0 hn).mp z))]
          obtain ⟨A1, b43, b44⟩ := A
          obtain ⟨n', en⟩ : ∃ q, n = q + 1 := ⟨n - 1, by omega⟩
          have A1' := A1
          have L' := L
          rw [en] at A1' L'
          have A3 := RA.up A1'
          have dl := dgt_lt S0 (n' + 1) P n'
          have dv : dgt (σ 2) (n' + 1) P n' = P % σ 2 := by
            unfold dgt
            rw [show n' + 1 - 1 - n' = 0 by omega, Nat.pow_zero, Nat.div_one]
          have pd := Nat.div_add_mod P (σ 2)
          refine ⟨(σ 2 ^ n - (P + 1)) * 300 + (if dgt (σ 2) (n' + 1) P n' + 1 = σ 2 then 200 + n' else 50 + (n - n')), sI y 155 43 (nI n'), ?_, Or.inl ⟨n', dgt (σ 2) (n' + 1) P n' + 1, P / σ 2, P + 1, rfl, ?_, ?_, sI_s, ?_, ?_, by omega, by omega, ?_, ?_, fun i hi => ?_, Fy.tr (FS.of55 (Or.inl rfl))⟩, by rw [en, nI_pred]⟩
          · rw [hm]
            by_cases z : dgt (σ 2) (n' + 1) P n' + 1 = σ 2
            · rw [if_pos z]; omega
            · rw [if_neg z]; omega
          · refine ⟨fun i hi => ?_, fun i hi b hb => ?_⟩
            · rw [sI_ne1 (by decide), sI_ne1 (by decide)]; exact A3.1 i hi
            · rw [sI_ne1 (by decide)]; exact A3.2 i hi b hb
          · exact fun i hi => by rw [sI_ne1 (by decide), up_up hi]; exact L' i (by omega)
          · rw [sI_nk1 (by decide)]; exact b44
          · rw [sI_ne1 (by decide)]; exact (A1'.1 n' (by omega)).2
          · exact Nat.div_lt_of_lt_mul (by rw [← pwS, ← en]; exact hP)
          · rw [dv, show n - 1 - n' = 0 by omega, Nat.pow_zero, Nat.mul_one, Nat.mul_comm (P / σ 2)]
            omega
          · by_cases hi2 : i = P
            · rw [hi2]; exact hq
            · exact no i (by omega)
      · left; right
        refine ⟨no, y, ?_, Fy⟩
        unfold F_X13_mends_21
        rw [b43, if_pos (by decide)]
    · refine Or.inl ⟨0, 0, 0, 0, by rw [if_neg (by omega)], ?_, ?_, ?_, ?_, ?_, by omega, by omega, by rw [Nat.pow_zero]; omega, by rw [Nat.zero_mul, Nat.zero_add, Nat.zero_mul], fun i hi => by omega, F1⟩
      · rw [ey1]
        exact ⟨fun i hi => absurd hi (Nat.not_lt_zero _), fun i hi b hb => by rw [sI_ne1 (by decide)]; exact A0.2 i hi b hb⟩
      · intro i hi
        rw [show i = 0 by omega, ey1, sI_s]
        rfl
      · rw [ey1, sI_ne1 (by decide)]; exact a43
      · rw [ey1, sI_ne1 (by decide)]; exact a44
      · rw [ey1, sI_ne1 (by decide)]; exact a73
  rcases L with ⟨j, y, a1, a2, a3, a4, a5, a6⟩ | ⟨a1, y, a2, a3⟩
  · exact ⟨y, a5, Or.inl ⟨j, a1, a2, a3, by rw [fe, a4], a6⟩⟩
  · exact ⟨y, a3, Or.inr ⟨a1, by rw [fe, a2]⟩⟩
/-- the fewest that are put in, the first row -/
def isMd (σ : Nat → Nat) (k j : Nat) : Prop := k ≤ 3 ∧ j < σ 2 ^ (σ 437 + k) ∧ QM σ k (σ 437 + k) j ∧ (∀ i, i < j → ¬ QM σ k (σ 437 + k) i) ∧ ∀ k', k' < k → ∀ i, i < σ 2 ^ (σ 437 + k') → ¬ QM σ k' (σ 437 + k') i
def noMd (σ : Nat → Nat) : Prop := ∀ k, k ≤ 3 → ∀ i, i < σ 2 ^ (σ 437 + k) → ¬ QM σ k (σ 437 + k) i
theorem isMd_u {k j k' j' : Nat} (a : isMd σ k j) (b : isMd σ k' j') : k = k' ∧ j = j' := by
  obtain ⟨a1, a2, a3, a4, a5⟩ := a
  obtain ⟨b1, b2, b3, b4, b5⟩ := b
  have hk : k = k' := by
    rcases (show k < k' ∨ k' < k ∨ k = k' by omega) with z | z | z
    · exact absurd a3 (b5 k z j a2)
    · exact absurd b3 (a5 k' z j' b2)
    · exact z
  subst hk
  refine ⟨rfl, ?_⟩
  rcases (show j < j' ∨ j' < j ∨ j = j' by omega) with z | z | z
  · exact absurd a3 (b4 j z)
  · exact absurd b3 (a4 j' z)
  · exact z
theorem isMd_no {k j : Nat} (a : isMd σ k j) (b : noMd σ) : False := b k a.1 j a.2.1 a.2.2.1
theorem c_seekMended (hS : SgOk σ nm) (T : TgRep h 7 σ nm) (s10 : σ 437 ≤ 10) (s1 : 1 ≤ σ 437) (S0 : 0 < σ 2) (h18 : h.1 18 1 = nI (σ 437)) (h19 : ∀ i, i < σ 437 → h.1 19 i = nI (σ (438 + i))) (hkb : h.1 123 8 = -1) : ∃ h', Same [122, 123, 124, 125, 126, 127, 128, 129] h h' ∧ h'.1 123 8 = -1 ∧ ((∃ k j, isMd σ k j ∧ f_X2_seekMended 7 18 h = some (nI k, h') ∧ h'.1 128 1 = nI (σ 437 + k) ∧ ∀ i, i < σ 437 + k → h'.1 129 i = nI (dgt (σ 2) (σ 437 + k) j i)) ∨ (noMd σ ∧ f_X2_seekMended 7 18 h = some (-1, h'))) := by
  have H := hS.1
  obtain ⟨-, -, -, e3, e3', e4, e4'⟩ := H.1
  obtain ⟨h1, eh1⟩ : ∃ q, q = sR (sR h 122 2 7) 122 3 18 := ⟨_, rfl⟩
  have q1 : Same [122, 123, 124, 125, 126, 127, 128, 129] h h1 := by rw [eh1]; exact (Same.ofR (by decide)).tr (Same.ofR (by decide))
  have i1 : h1.1 = h.1 := by rw [eh1]; rfl
  obtain ⟨h2, f2, s2, l2, w0, w1⟩ := c_wantByAll (h := h1) (nI 10) (nI 10)
  have q2 : Same [122, 123, 124, 125, 126, 127, 128, 129] h h2 := q1.tr (s2.mono (fun q hq => by simp only [List.mem_cons, List.not_mem_nil, or_false] at hq ⊢; omega))
  have T2 : TgRep h2 7 σ nm := T.kept (fun q z1 z2 => ⟨(q2 q (by simp; omega)).1, (q2 q (by simp; omega)).2.1⟩)
  obtain ⟨h3, f3, b1, b2, b3, b4, b5, b6⟩ := c_begin (h := h2) (x := 9) (e := σ 3) (r := σ 4) (by omega) T2.1.2.2.2.1 T2.1.2.2.2.2 (by omega) (by omega) (by omega)
  have q3 : Same [122, 123, 124, 125, 126, 127, 128, 129] h h3 := q2.tr (b1.mono (fun q hq => by simp only [List.mem_cons, List.not_mem_nil, or_false] at hq ⊢; omega))
  have p122 : h3.2.2 122 2 = 7 ∧ h3.2.2 122 3 = 18 := by
    rw [(b1 122 (by decide)).2.2, l2, eh1]
    exact ⟨rfl, rfl⟩
  have k3 : h3.1 123 8 = -1 := by rw [b2 8 (by decide), (s2 123 (by decide)).1, i1]; exact hkb
  obtain ⟨kF, ekF⟩ : ∃ k : Int32 → Hp → Option (Int32 × Hp), k = fun v11 h10 => lt (sI h10 128 1 (h10.1 123 7)) fun h12 => some (v11, h12) := ⟨_, rfl⟩
  have LL := loopE (F := F_X2_seekMended_32 18 kF (fun h13 => some ((-1), h13))) (k0 := fun y => some (y.1 123 7 - y.1 18 1, y)) (k1 := fun h13 => some ((-1), h13)) 0 4 (by omega) (fun k => ∀ i, i < σ 2 ^ (σ 437 + k) → ¬ QM σ k (σ 437 + k) i) (fun k y => (Same [122, 123, 124, 125, 126, 127, 128, 129] h y ∧ y.1 123 8 = -1 ∧ y.2.2 122 = h3.2.2 122) ∧ (∀ ln, y.1 123 7 = ln → WB σ nm (σ 3) (σ 4) (gw 10 10) none ln y) ∧ WL σ (σ 3) (σ 4) (gw 10 10) none 0 0 y ∧ ∀ k', k' < k → ∀ i, i < σ 2 ^ (σ 437 + k') → ¬ QM σ k' (σ 437 + k') i) (fun y => (Same [122, 123, 124, 125, 126, 127, 128, 129] h y ∧ y.1 123 8 = -1) ∧ ∃ k j, isMd σ k j ∧ y.1 123 7 = nI (σ 437 + k) ∧ y.1 128 1 = nI (σ 437 + k) ∧ ∀ i, i < σ 437 + k → y.1 129 i = nI (dgt (σ 2) (σ 437 + k) j i)) (fun self y _ => by
      unfold F_X2_seekMended_32
      rw [if_pos (by decide)]) (fun self k y _ hk ⟨⟨z1, z1', z1''⟩, z2, z3, z4⟩ => by
      obtain ⟨y1, ey1⟩ : ∃ q, q = sI y 123 7 (nI (σ 437 + k)) := ⟨_, rfl⟩
      have B0 := z2 _ rfl
      have B1 : WB σ nm (σ 3) (σ 4) (gw 10 10) none (nI (σ 437 + k)) y1 := by
        obtain ⟨c1, c2, c3, c4, c5⟩ := B0
        rw [ey1]
        refine ⟨c1.kept (fun q w1 w2 => ⟨funext fun j => sI_ne1 (by omega), rfl⟩), c2, ⟨?_, sI_s, ?_⟩, fun i hi => ?_, fun b hb => ?_⟩
        · rw [sI_nk1 (by decide)]; exact c3.1
        · rw [sI_nk1 (by decide)]; exact c3.2.2
        · rw [sI_ne1 (by decide)]; exact c4 i hi
        · rw [sI_ne1 (by decide)]; exact c5 b hb
      have L1 : WL σ (σ 3) (σ 4) (gw 10 10) none 0 0 y1 := by
        rw [ey1]
        exact ⟨fun i hi => absurd hi (Nat.not_lt_zero _), z3.2.1, fun q hq => by cases hq⟩
      have M1 : MW σ y1 := by
        rw [ey1]
        refine ⟨by show y.2.2 122 3 = 18; rw [z1'']; exact p122.2, ?_, fun i hi => ?_⟩
        · rw [sI_ne1 (by decide), (z1 18 (by decide)).1]; exact h18
        · rw [sI_ne1 (by decide), (z1 19 (by decide)).1]; exact h19 i hi
      obtain ⟨v, y2, f3, s3, g1, g2⟩ := c_seekM (n := σ 437 + k) hS s10 (by omega) rfl S0 (σ 437 + k) 0 0 0 y1 400 (by omega) (by omega) rfl (by omega) B1 M1 L1
      rw [Nat.zero_mul, Nat.zero_add, Nat.one_mul] at g1 g2
      have sy : Same [122, 123, 124, 125, 126, 127, 128, 129] h y2 := by
        refine z1.tr (Same.tr (h1 := y1) ?_ (s3.mono (fun q hq => by simp only [List.mem_cons, List.not_mem_nil, or_false] at hq ⊢; omega)))
        rw [ey1]
        exact Same.ofI (by decide)
      have ky : y2.1 123 8 = -1 := by rw [(s3 123 (by decide)).1, ey1, sI_nk1 (by decide)]; exact z1'
      have l7 : y2.1 123 7 = nI (σ 437 + k) := by rw [(s3 123 (by decide)).1, ey1, sI_s]
      have head : F_X2_seekMended_32 18 kF (fun h13 => some ((-1), h13)) self (nI k) y = (if nI v.toNat = 0 then self (nI (k + 1)) y2 else kF (nI k) y2) := by
        unfold F_X2_seekMended_32 f_X2_seekWithIdle
        rw [if_neg (show ¬ (3 : Int32) < nI k from nI_nlt (a := 3) (by omega) (by omega)), lt_s0, (z1 18 (by decide)).1, h18, nI_add, ← ey1, li_0, f3, bndS, nI_1]
      rw [head]
      cases hv : v with
      | false =>
        obtain ⟨no, L2⟩ := g2 hv
        have no' : ∀ i, i < σ 2 ^ (σ 437 + k) → ¬ QM σ k (σ 437 + k) i := fun i hi => no i (by omega) hi
        refine Or.inl ⟨no', y2, by rw [if_pos (by decide)], ⟨sy, ky, by rw [(s3 122 (by decide)).2.2, ey1]; exact z1''⟩, fun ln hln => ?_, L2, fun k' w2 => ?_⟩
        · rw [l7] at hln
          rw [← hln]
          exact B1.same (s3.mono (fun q hq => by simp only [List.mem_cons, List.not_mem_nil, or_false] at hq ⊢; omega))
        · by_cases w3 : k' = k
          · rw [w3]; exact no'
          · exact z4 k' (by omega)
      | true =>
        obtain ⟨j, k1, k2, k3, k4, k5⟩ := g1 hv
        refine Or.inr ⟨fun z => z j k2 k3, sI y2 128 1 (nI (σ 437 + k)), ?_, ⟨sy.tr (Same.ofI (by decide)), by rw [sI_ne1 (by decide)]; exact ky⟩, k, j, ⟨by omega, k2, k3, fun i hi => k4 i (by omega) hi, z4⟩, by rw [sI_ne1 (by decide)]; exact l7, sI_s, fun i hi => by rw [sI_ne1 (by decide)]; exact k5 i hi⟩
        rw [if_neg (by decide), ekF]
        show lt (sI y2 128 1 (y2.1 123 7)) _ = _
        rw [lt_s0, l7, sI_ne1 (by decide), sI_ne1 (by decide), l7, (sy 18 (by decide)).1, h18, subN (by omega), show σ 437 + k - σ 437 = k by omega]) h3 ⟨⟨q3, k3, rfl⟩, fun ln hln => ⟨T.kept (fun q w1 w2 => ⟨(q3 q (by simp; omega)).1, (q3 q (by simp; omega)).2.1⟩), ⟨b4, p122.1⟩, ⟨b3, hln, k3⟩, b5, fun b hb => ?_⟩, WL_0 0 b6, fun k' w2 => by omega⟩ (by omega)
  · have fe : f_X2_seekMended 7 18 h = itr2 (F_X2_seekMended_32 18 kF (fun h13 => some ((-1), h13))) N0 (nI 0) h3 := by
      unfold f_X2_seekMended
      rw [lt_s0, lt_s0, ← eh1, show (10 : Int32) = nI 10 from rfl, f2, bnvS]
      show bnv (f_X11_begin 7 9 h2) _ = _
      rw [f3, bnvS, ← ekF, li_0]
    rcases LL with ⟨-, y, a2, ⟨a3, a3', -⟩, a4, a5, a6⟩ | ⟨-, y, a2, ⟨a3, a3'⟩, k, j, a4, a5, a6, a7⟩
    · exact ⟨y, a3, a3', Or.inr ⟨fun k hk => a6 k (by omega), by rw [fe, a2]⟩⟩
    · refine ⟨y, a3, a3', Or.inl ⟨k, j, a4, ?_, a6, a7⟩⟩
      rw [fe, a2, a5, (a3 18 (by decide)).1, h18, subN (by omega), show σ 437 + k - σ 437 = k by omega]
  · rw [(b1 127 (by decide)).1]
    unfold gw
    by_cases z : b = 0
    · rw [if_pos z, z]; exact w0
    · rw [if_neg z]; exact w1 b (by omega) (by omega)
theorem st_mend (hI : Inv h) : ∃ v h1 h2, f_X12_mend h = some (v, h1) ∧ f_X13_mend h1 = some (v, h2) ∧ Inv h2 := by
  obtain ⟨tp, σ, nm, K, fd, fl, tn, hA, hC, hM⟩ := hI
  have hS := hA.2.1
  have H := hS.1
  have h8 := H.1.2.2.1
  have n24 := hS.2.1.1
  obtain ⟨-, -, -, e3, e3', e4, e4'⟩ := H.1
  have M1 := hM.keep (th_Eq 0)
  have c18 : h.1 18 1 = nI (σ 437) := hC.2.1.2.1.1
  by_cases hs : 1 ≤ σ 437 ∧ σ 437 ≤ 10
  · obtain ⟨s1, s10⟩ := hs
    have S0 : 0 < σ 2 := by
      have := hS.2.1.2 0 (by omega)
      omega
    obtain ⟨g, sg, kg, og⟩ := c_seekMended hS hC.2.1.1 s10 s1 S0 c18 hC.2.1.2.1.2 hC.2.2.2.2.2.2
    have key : ∀ x ∈ [122, 123, 124, 125, 126, 127, 128, 129], x ∈ scrL := by decide
    have Cg : CR tp σ nm K fd fl tn g := hC.scr hA (fun a z1 z2 => by have := sg a (fun z => z2 (key a z)); exact ⟨this.1, this.2.1⟩) kg
    have head : ∀ v4, f_X2_seekMended 7 18 h = some (v4, g) → f_X12_mend h = (if v4 < 0 then some (v4, g) else bnv (f_X7_copyFrom 140 128 g) fun h9 => some (v4, h9)) := fun v4 e => by
      unfold f_X12_mend f_X2_foundRow
      rw [c18, if_neg (show ¬ nI (σ 437) < (1 : Int32) from nI_nlt (b := 1) s1 (by omega)), if_pos (show nI (σ 437) ≤ (10 : Int32) from nI_le (b := 10) s10 (by decide)), e, bndS]
      rfl
    -- the reference, from any heap that stands so
    have ref : ∀ g', Hi h g' → ∃ y2, Lo (sI g' 155 0 0) y2 ∧ ((∃ k j, isMd σ k j ∧ f_X13_mend g' = some (nI k, y2) ∧ MR tp σ nm K (dig (σ 2) (σ 437 + k) j) fl tn y2) ∨ (noMd σ ∧ f_X13_mend g' = some (-1, y2) ∧ MR tp σ nm K fd fl tn y2)) := fun g' hi => by
      have Mg := (hM.hi hi).keep (th_Eq 0)
      obtain ⟨g0, eg0⟩ : ∃ z, z = sI g' 155 0 0 := ⟨_, rfl⟩
      rw [← eg0] at Mg ⊢
      obtain ⟨y1, j1, z1, z2, z3, z4, z5⟩ := m_settle Mg H
      have N1 := Mg.settled z1 z2 z3 z4 z5
      have R1 := RB.ofM N1 z5
      obtain ⟨kA, ekA⟩ : ∃ k : Int32 → Hp → Option (Int32 × Hp), k = fun v11 h10 => bnd (f_X13_keepRow ((h10.1 157 ((437 : Int32).toNatClampNeg)) + v11) h10) fun v13 h12 => some (v11, h12) := ⟨_, rfl⟩
      have LL := loopE (F := F_X13_mend_31 kA (fun h14 => some ((-1), h14))) (k0 := fun y => kA (y.1 155 44 - nI (σ 437)) y) (k1 := fun h14 => some ((-1), h14)) 0 4 (by omega) (fun k => ∀ i, i < σ 2 ^ (σ 437 + k) → ¬ QM σ k (σ 437 + k) i) (fun k y => FS y1 y ∧ ∀ k', k' < k → ∀ i, i < σ 2 ^ (σ 437 + k') → ¬ QM σ k' (σ 437 + k') i) (fun y => FS y1 y ∧ ∃ k j, isMd σ k j ∧ RF σ (σ 3) (σ 4) (σ 437 + k) j y) (fun self y _ => by
          unfold F_X13_mend_31
          rw [if_pos (by decide)]) (fun self k y _ hk ⟨Fy, no⟩ => by
          obtain ⟨y2, F2, o2⟩ := m_mends (k := k) (n := σ 437 + k) hS s10 s1 (by omega) rfl S0 (N1.fs Fy) (R1.fs Fy)
          rcases o2 with ⟨j, a1, a2, a3, a4, a5⟩ | ⟨a1, a2⟩
          · refine Or.inr ⟨fun z => z j a1 a2, y2, ?_, Fy.tr F2, k, j, ⟨by omega, a1, a2, a3, no⟩, a5⟩
            unfold F_X13_mend_31
            rw [if_neg (show ¬ (4 : Int32) ≤ nI k from nI_ge (b := 4) hk (by decide)), a4, bndS, if_neg (by decide), a5.2.2, subN (by omega), show σ 437 + k - σ 437 = k by omega]
          · refine Or.inl ⟨a1, y2, ?_, Fy.tr F2, fun k' w2 => ?_⟩
            · unfold F_X13_mend_31
              rw [if_neg (show ¬ (4 : Int32) ≤ nI k from nI_ge (b := 4) hk (by decide)), a2, bndS, if_pos (by decide), nI_1]
            · by_cases w3 : k' = k
              · rw [w3]; exact a1
              · exact no k' (by omega)) y1 ⟨FS.rf, fun k' w => by omega⟩ (by omega)
      have fe : f_X13_mend g' = itr2 (F_X13_mend_31 kA (fun h14 => some ((-1), h14))) N0 (nI 0) y1 := by
        unfold f_X13_mend
        rw [lt_s0, ← eg0, li_437, clp (by omega), Mg.2.1 437 (by omega), m_isIn_t (lo := 1) (hi := 10) (a := 1) (b := 10) (j := σ 437) g0 rfl rfl rfl s1 s10 (by decide), bndS, if_neg (by decide), j1, bnvS, li_0]
        rw [ekA, li_437, clp (by omega)]
      rcases LL with ⟨-, y, a2, a3, a4⟩ | ⟨-, y, a2, a3, k, j, a4, a5⟩
      · exact ⟨y, (z1.lo (by decide)).tr a3.lo, Or.inr ⟨fun k hk => a4 k (by omega), by rw [fe, a2], N1.fs a3⟩⟩
      · have My := N1.fs a3
        have k3 := a4.1
        obtain ⟨y4, f4, M4, L4, -⟩ := m_keepRow My a5 (by omega)
        refine ⟨y4, (z1.lo (by decide)).tr (a3.lo.tr L4), Or.inl ⟨k, j, a4, ?_, M4⟩⟩
        rw [fe, a2, ekA]
        show bnd (f_X13_keepRow (y.1 157 ((437 : Int32).toNatClampNeg) + (y.1 155 44 - nI (σ 437))) y) _ = _
        rw [a5.2.2, subN (by omega), show σ 437 + k - σ 437 = k by omega, li_437, clp (by omega), My.2.1 437 (by omega), nI_add, f4, bndS]
    rcases og with ⟨k, j, m1, f1, r1, r2⟩ | ⟨no, f1⟩
    · have k3 := m1.1
      have rc := row_copy (h := g) (d := 140) (s := 128) (n := σ 437 + k) r1 (show _ ≤ 13 by omega) (show _ ≤ 13 by omega) (by decide)
      obtain ⟨h9, eh9⟩ : ∃ z, z = sI (cI g (128 + 1) 0 (140 + 1) 0 (σ 437 + k)) 140 1 (nI (σ 437 + k)) := ⟨_, rfl⟩
      have s9 : Same [140, 141] g h9 := by rw [eh9]; exact (Same.ofCI (by decide)).tr (Same.ofI (by decide))
      have I9 : Hi h h9 := (sg.hi (by decide)).tr (s9.hi (by decide))
      have A9 : AbOk tp σ nm K (dig (σ 2) (σ 437 + k) j) fl tn := hA.fnd (by rw [dig_len]; omega) (fun x hx => by have := dig_lt S0 (σ 437 + k) j x hx; omega)
      have C9 : CR tp σ nm K (dig (σ 2) (σ 437 + k) j) fl tn h9 := by
        refine Cg.fnd hA (fun a z1 z2 z3 z4 => ?_) (by rw [(s9 123 (by decide)).1]; exact kg) ?_ ?_
        · have : a ∉ [140, 141] := fun z => by
            simp only [List.mem_cons, List.not_mem_nil, or_false] at z
            rcases z with z | z
            · exact z3 z
            · exact z4 z
          exact ⟨(s9 a this).1, (s9 a this).2.1⟩
        · rw [eh9, sI_s, dig_len]
        · intro i hi
          rw [dig_len] at hi
          rw [dig_dgt hi, eh9, sI_ne1 (by decide), show (141 : Nat) = 140 + 1 from rfl, cI_at, cpy_0 hi]
          exact r2 i hi
      obtain ⟨y2, L2, o2⟩ := ref h9 I9
      rcases o2 with ⟨k', j', m2, f2, N2⟩ | ⟨no, -, -⟩
      · obtain ⟨u1, u2⟩ := isMd_u m1 m2
        rw [← u1] at f2
        rw [← u1, ← u2] at N2
        refine ⟨nI k, h9, y2, ?_, f2, tp, σ, nm, K, _, fl, tn, A9, C9.lo A9 ((th_Lo 0).tr L2), N2⟩
        rw [head _ f1, if_neg (nI_pos (by omega)), rc, bnvS, ← eh9]
      · exact (isMd_no m1 no).elim
    · obtain ⟨y2, L2, o2⟩ := ref g (sg.hi (by decide))
      rcases o2 with ⟨k', j', m2, -, -⟩ | ⟨-, f2, N2⟩
      · exact (isMd_no m2 no).elim
      · refine ⟨-1, g, y2, ?_, f2, tp, σ, nm, K, fd, fl, tn, hA, Cg.lo hA ((th_Lo 0).tr L2), N2⟩
        rw [head _ f1, if_pos (by decide)]
  · refine ⟨-2, h, sI h 155 0 0, ?_, ?_, tp, σ, nm, K, fd, fl, tn, hA, hC.lo hA (th_Lo 0), M1⟩
    · unfold f_X12_mend
      rw [c18]
      by_cases z : σ 437 < 1
      · rw [if_pos (show nI (σ 437) < (1 : Int32) from nI_lt (b := 1) z (by decide))]
      · rw [if_neg (show ¬ nI (σ 437) < (1 : Int32) from nI_nlt (b := 1) (by omega) (by omega)), if_neg (show ¬ nI (σ 437) ≤ (10 : Int32) from nI_ge (a := 10) (by omega) (by omega))]
    · unfold f_X13_mend
      rw [lt_s0, li_437, clp (by omega), M1.2.1 437 (by omega)]
      rcases m_isIn (nI (σ 437)) (lo := 1) (hi := 10) (a := 1) (b := 10) (sI h 155 0 0) rfl rfl (by decide) (by decide) with ⟨e, q⟩ | ⟨j, q1, q2, q3, e⟩
      · rw [e, bndS, if_pos (by decide)]
      · have := (nI_eq (by omega) (by omega)).mp q3
        exact absurd ⟨by omega, by omega⟩ hs
end TU
