section TH
variable {tp : List Nat} {σ τ : Nat → Nat} {nm nm2 : Nat → List Nat} {K : Im} {fd : List Nat} {fl : Nat} {tn : Option Tn} {h h' : Hp}
/-! rows as the reference tries them -/
def RB (τ : Nat → Nat) (e r : Nat) (h : Hp) : Prop := (∀ k, k < 72 → (k < 15 ∨ 40 ≤ k) → h.1 157 k = nI (τ k)) ∧ Cache τ h ∧ h.1 155 25 = nI e ∧ h.1 155 26 = nI r
def FS (h h' : Hp) : Prop := Same [155, 171, 173, 174, 175, 177] h h' ∧ (∀ j, j ≠ 43 → j ≠ 44 → h'.1 155 j = h.1 155 j) ∧ h'.2.1 155 = h.2.1 155
theorem FS.rf : FS h h := ⟨Same.rf, fun _ _ _ => rfl, rfl⟩
theorem FS.tr {h1 h2 : Hp} (a : FS h h1) (b : FS h1 h2) : FS h h2 := ⟨a.1.tr b.1, fun j h1 h2 => (b.2.1 j h1 h2).trans (a.2.1 j h1 h2), b.2.2.trans a.2.2⟩
theorem FS.ofI {a k : Nat} {v : Int32} (ha : a ∈ [171, 173, 174, 175, 177]) : FS h (sI h a k v) := ⟨Same.ofI (by simp at ha ⊢; omega), fun j _ _ => sI_ne1 (by simp at ha; omega), rfl⟩
theorem FS.of55 {k : Nat} {v : Int32} (hk : k = 43 ∨ k = 44) : FS h (sI h 155 k v) := ⟨Same.ofI (by decide), fun j h1 h2 => sI_nk1 (by omega), rfl⟩
theorem FS.ofL {k : Nat} {v : Int64} : FS h (sL h 171 k v) := ⟨Same.ofL (by decide), fun _ _ _ => rfl, funext fun _ => sL_ne1 (by decide)⟩
theorem RB.fs {e r : Nat} (R : RB τ e r h) (f : FS h h') : RB τ e r h' := by
  obtain ⟨a, b, c, d⟩ := R
  refine ⟨?_, ?_, ?_, ?_⟩
  · rw [(f.1 157 (by decide)).1]; exact a
  · unfold Cache
    rw [(f.1 166 (by decide)).1, (f.1 165 (by decide)).1, (f.1 164 (by decide)).1]; exact b
  · rw [f.2.1 25 (by decide) (by decide)]; exact c
  · rw [f.2.1 26 (by decide) (by decide)]; exact d
theorem FS.lo (f : FS h h') : Lo h h' := f.1.lo (by decide)
theorem MR.fs (H : MR tp σ nm K fd fl tn h) (f : FS h h') : MR tp σ nm K fd fl tn h' := H.keep (EqM.ofSame f.1 (by decide) (fun j hj => f.2.1 j (fun z => by subst z; revert hj; decide) (fun z => by subst z; revert hj; decide)) (by rw [f.2.2]))
/-- row P of d stands -/
def RA (τ : Nat → Nat) (e r d P : Nat) (h : Hp) : Prop := (∀ i, i < d → h.1 174 i = nI (dgt (τ 2) d P i) ∧ h.1 173 i = nI (dgt (τ 2) d P i + 1)) ∧ ∀ i, i ≤ d → ∀ b, b ≤ e → h.2.1 171 (6 * i + b) = mst (rs τ e r b i (up (τ 2) d P i)) ∧ h.1 175 (6 * i + b) = nI (bs τ e r b i (up (τ 2) d P i))
theorem m_begin {e r n : Nat} (R : RB τ e r h) (he : e ≤ 5) : ∃ h', f_X13_begin (nI n) h = some h' ∧ FS h h' ∧ RA τ e r 0 0 h' ∧ h'.1 155 43 = nI 0 ∧ h'.1 155 44 = nI n ∧ h'.1 173 0 = nI 0 := by
  obtain ⟨h3, eh3⟩ : ∃ q, q = sI (sI (sI h 155 44 (nI n)) 155 43 (nI 0)) 173 0 (nI 0) := ⟨_, rfl⟩
  have f3 : FS h h3 := by rw [eh3]; exact ((FS.of55 (Or.inr rfl)).tr (FS.of55 (Or.inl rfl))).tr (FS.ofI (by decide))
  have c25 : h3.1 155 25 = nI e := (R.fs f3).2.2.1
  obtain ⟨g, e1, p1, p2, p3⟩ := loop2n (F := F_X13_begin_19 (fun h9 => some h9)) (k := fun h9 => some h9) (e + 1) (fun i y => Same [171, 175] h3 y ∧ y.2.1 155 = h3.2.1 155 ∧ ∀ b, b < i → y.2.1 171 b = -1 ∧ y.1 175 b = nI 0) (fun self y ⟨z1, _⟩ => by
      unfold F_X13_begin_19
      rw [(z1 155 (by decide)).1, c25, if_pos (nI_lt (by omega) (by omega))]) (fun self i y hi ⟨z1, z2, z3⟩ => by
      refine ⟨sI (sL y 171 i (-1)) 175 i (nI 0), ?_, z1.tr ((Same.ofL (by decide)).tr (Same.ofI (by decide))), by rw [← z2]; exact funext fun j => sL_ne1 (by decide), fun b hb => ?_⟩
      · unfold F_X13_begin_19
        rw [(z1 155 (by decide)).1, c25, if_neg (nI_nlt (by omega) (by omega)), if_pos (inb_nI (by omega) (by decide)), lt_s0, if_pos (inb_nI (by omega) (by decide)), lt_s0, nI_clamp (by omega), nI_1]
        rfl
      · by_cases h1 : b = i
        · rw [h1, sI_s]
          exact ⟨sL_s, rfl⟩
        · rw [sI_nk1 h1]
          have := z3 b (by omega)
          exact ⟨(sL_nk1 h1).trans this.1, this.2⟩) h3 ⟨Same.rf, rfl, fun b hb => by omega⟩ (by omega)
  refine ⟨g, ?_, ⟨f3.1.tr (p1.mono (fun q hq => by simp only [List.mem_cons, List.not_mem_nil, or_false] at hq ⊢; omega)), fun j w1 w2 => by rw [(p1 155 (by decide)).1]; exact f3.2.1 j w1 w2, by rw [p2]; exact f3.2.2⟩, ⟨fun i hi => absurd hi (Nat.not_lt_zero _), fun i hi b hb => ?_⟩, ?_, ?_, ?_⟩
  · unfold f_X13_begin
    rw [lt_s0, lt_s0, lt_s0, li_0, clp (n := 0) (by omega), ← eh3, e1]
  · have := p3 b (by omega)
    rw [show i = 0 by omega, show 6 * 0 + b = b by omega, rs_0, bs_0]
    exact this
  · rw [(p1 155 (by decide)).1, eh3, sI_ne1 (by decide), sI_s]
  · rw [(p1 155 (by decide)).1, eh3, sI_ne1 (by decide), sI_nk1 (by decide), sI_s]
  · rw [(p1 173 (by decide)).1, eh3, sI_s]
theorem m_step {e r d P w : Nat} (R : RB τ e r h) (A : RA τ e r d P h) (H : TgOk τ nm) (e0 : 0 < e) (he : e ≤ 5) (hr : r < 1000) (hd : d < 13) (hw : w < τ 2) (h43 : h.1 155 43 = nI d) (h73 : h.1 173 d = nI (w + 1)) : ∃ h', f_X13_step (nI w) h = some h' ∧ FS h h' ∧ RA τ e r (d + 1) (P * τ 2 + w) h' ∧ h'.1 155 43 = nI (d + 1) ∧ h'.1 155 44 = h.1 155 44 ∧ h'.1 177 = h.1 177 := by
  have h8 := H.1.2.2.1
  obtain ⟨A1, A2⟩ := A
  have up0 : up (τ 2) d P d = P := up_self _ _ _
  obtain ⟨h2, eh2⟩ : ∃ q, q = sI h 174 d (nI w) := ⟨_, rfl⟩
  have f2 : FS h h2 := by rw [eh2]; exact FS.ofI (by decide)
  have R2 := R.fs f2
  obtain ⟨k1, ek1⟩ : ∃ k1 : Hp → Option Hp, k1 = fun h19 => lt (sI h19 155 43 ((h19.1 155 43) + 1)) fun h20 => some h20 := ⟨_, rfl⟩
  obtain ⟨g, e1, p1, p2, p3, p4⟩ := loop2n (F := F_X13_step_12 (nI w) k1) (k := k1) (e + 1) (fun i y => Same [171, 175] h2 y ∧ y.2.1 155 = h2.2.1 155 ∧ (∀ j, j < 6 * d + 6 → y.2.1 171 j = h.2.1 171 j ∧ y.1 175 j = h.1 175 j) ∧ ∀ b, b < i → y.2.1 171 (6 * d + 6 + b) = mst (rs τ e r b (d + 1) (P * τ 2 + w)) ∧ y.1 175 (6 * d + 6 + b) = nI (bs τ e r b (d + 1) (P * τ 2 + w))) (fun self y ⟨z1, _⟩ => by
      unfold F_X13_step_12
      rw [(z1 155 (by decide)).1, R2.2.2.1, if_pos (nI_lt (by omega) (by omega))]) (fun self b y hb ⟨z1, z2, z3, z4⟩ => by
      have Fy : FS h2 y := ⟨z1.mono (fun q hq => by simp only [List.mem_cons, List.not_mem_nil, or_false] at hq ⊢; omega), fun j _ _ => by rw [(z1 155 (by decide)).1], z2⟩
      have Ry := R2.fs Fy
      have y43 : y.1 155 43 = nI d := by rw [(z1 155 (by decide)).1, eh2, sI_ne1 (by decide)]; exact h43
      have A2d := A2 d (Nat.le_refl _) b (by omega)
      rw [up0] at A2d
      have y71 : y.2.1 171 (6 * d + b) = mst (rs τ e r b d P) := by rw [(z3 _ (by omega)).1]; exact A2d.1
      have y75 : y.1 175 (6 * d + b) = nI (bs τ e r b d P) := by rw [(z3 _ (by omega)).2]; exact A2d.2
      have is := m_isStruck (h := y) (b := b) (p := d + 1) (e := e) (r := r) Ry.2.2.1 Ry.2.2.2 e0 (by omega) hr (by omega) (by omega)
      have rl := rs_le' H e r b d P (Or.inr (by omega))
      have cm := m_comes (h := y) (X := rs τ e r b d P) (w := w) (fun k hk => Ry.1 k (by omega) (by omega)) Ry.2.1 H rl hw
      have X' := rs_s (τ := τ) (e := e) (r := r) (b := b) (d := d) (P := P) hw
      have Y' := bs_s (τ := τ) (e := e) (r := r) (b := b) (d := d) (P := P) hw
      obtain ⟨y', ey'⟩ : ∃ z, z = sI (sL y 171 (6 * d + 6 + b) (mst (rs τ e r b (d + 1) (P * τ 2 + w)))) 175 (6 * d + 6 + b) (nI (bs τ e r b (d + 1) (P * τ 2 + w))) := ⟨_, rfl⟩
      have b76 : ∀ kk (st : Bool), stk e r b (d + 1) = st → B_X13_step_76 (nI w) kk self (nI b) (nI (6 * d + b)) (nI st.toNat) (mst (rs τ e r b (d + 1) (P * τ 2 + w))) (nI (6 * d + b) + 6) y = self (nI (b + 1)) y' := fun kk st hst => by
        have i6 : nI (6 * d + b) + 6 = nI (6 * d + 6 + b) := by rw [li_6, nI_add, show 6 * d + b + 6 = 6 * d + 6 + b by omega]
        have c57 : (sL y 171 (6 * d + 6 + b) (mst (rs τ e r b (d + 1) (P * τ 2 + w)))).1 157 (40 + w) = nI (τ (40 + w)) := Ry.1 _ (by omega) (by omega)
        have c75 : (sL y 171 (6 * d + 6 + b) (mst (rs τ e r b (d + 1) (P * τ 2 + w)))).1 175 (6 * d + b) = nI (bs τ e r b d P) := y75
        unfold B_X13_step_76 B_X13_step_109
        rw [i6, if_pos (inb_nI (by omega) (by decide)), lt_s0, if_pos (inb_nI (by omega) (by decide)), li_40, nI_add]
        simp (disch := omega) only [clp]
        rw [c57, c75]
        rw [hst] at Y'
        cases st
        · rw [if_pos (by decide), if_pos (inb_nI (by omega) (by decide)), if_pos (inb_nI (by omega) (by decide)), lt_s0, nI_add, nI_1, ey', Y']
          rfl
        · rw [if_neg (by decide), if_pos (inb_nI (by omega) (by decide)), lt_s0, li_0, nI_add, nI_1, ey', Y']
          rfl
      refine ⟨y', ?_, ?_, ?_, fun j hj => ?_, fun b' hb' => ?_⟩
      · unfold F_X13_step_12
        rw [Ry.2.2.1, if_neg (nI_nlt (by omega) (by omega)), lt_s0, y43, nI_1, is, bndS, li_6, pk_mul, nI_add]
        simp (disch := omega) only [clp]
        rw [y71, cm]
        cases hst : stk e r b (d + 1)
        · rw [hst, if_neg (by decide)] at X'
          rw [if_pos (by decide), if_pos (inb_nI (by omega) (by decide)), bndS, mst_stp H (by omega), ← X']
          exact b76 _ false hst
        · rw [hst, if_pos rfl] at X'
          rw [if_neg (by decide), if_pos (inb_nI (by omega) (by decide)), ← X']
          exact b76 _ true hst
      · rw [ey']; exact z1.tr ((Same.ofL (by decide)).tr (Same.ofI (by decide)))
      · rw [ey', ← z2]; exact funext fun j => sL_ne1 (by decide)
      · rw [ey', sI_nk1 (by omega)]
        exact ⟨(sL_nk1 (by omega)).trans (z3 j hj).1, (z3 j hj).2⟩
      · rw [ey']
        by_cases h1 : b' = b
        · rw [h1, sI_s]
          exact ⟨sL_s, rfl⟩
        · rw [sI_nk1 (by omega)]
          exact ⟨(sL_nk1 (by omega)).trans (z4 b' (by omega)).1, (z4 b' (by omega)).2⟩) h2 ⟨Same.rf, rfl, fun j hj => by rw [eh2, sI_ne1 (by decide)]; exact ⟨rfl, rfl⟩, fun b hb => by omega⟩ (by omega)
  have g43 : g.1 155 43 = nI d := by rw [(p1 155 (by decide)).1, eh2, sI_ne1 (by decide)]; exact h43
  have Fg : FS h2 g := ⟨p1.mono (fun q hq => by simp only [List.mem_cons, List.not_mem_nil, or_false] at hq ⊢; omega), fun j _ _ => by rw [(p1 155 (by decide)).1], p2⟩
  refine ⟨sI g 155 43 (nI (d + 1)), ?_, (f2.tr Fg).tr (FS.of55 (Or.inl rfl)), ⟨fun i hi => ?_, fun i hi b hb => ?_⟩, sI_s, ?_, ?_⟩
  · unfold f_X13_step
    rw [h43, if_pos (inb_nI (by omega) (by decide)), lt_s0, nI_clamp (by omega), ← eh2, ← ek1, li_0, e1, ek1]
    show lt (sI g 155 43 (g.1 155 43 + 1)) _ = _
    rw [lt_s0, g43, nI_1]
  · rw [sI_ne1 (by decide), sI_ne1 (by decide), (p1 174 (by decide)).1, (p1 173 (by decide)).1, eh2]
    by_cases h1 : i = d
    · rw [h1, sI_s, sI_ne1 (by decide), dgt_last hw]
      exact ⟨rfl, h73⟩
    · rw [sI_nk1 h1, sI_ne1 (by decide), dgt_lo hw (by omega)]
      exact A1 i (by omega)
  · rw [sI_ne1 (by decide)]
    show g.2.1 171 (6 * i + b) = _ ∧ _
    by_cases h1 : i = d + 1
    · rw [h1, up_self, show 6 * (d + 1) + b = 6 * d + 6 + b by omega]
      exact p4 b (by omega)
    · rw [up_lo hw (by omega), (p3 _ (by omega)).1, (p3 _ (by omega)).2]
      exact A2 i (by omega) b hb
  · rw [sI_nk1 (by decide), (p1 155 (by decide)).1, eh2, sI_ne1 (by decide)]
  · show (sI g 155 43 (nI (d + 1))).1 177 = _
    refine (funext fun j => sI_ne1 (by decide)).trans ?_
    rw [(p1 177 (by decide)).1, eh2]
    exact funext fun j => sI_ne1 (by decide)
/-- all of row k of n stands -/
def RF (τ : Nat → Nat) (e r n k : Nat) (h : Hp) : Prop := RA τ e r n k h ∧ h.1 155 43 = nI n ∧ h.1 155 44 = nI n
theorem RA.up {e r d P : Nat} (A : RA τ e r (d + 1) P h) : RA τ e r d (P / τ 2) h := by
  refine ⟨fun i hi => ?_, fun i hi b hb => ?_⟩
  · rw [dgt_up hi]; exact A.1 i (by omega)
  · rw [up_up hi]; exact A.2 i (by omega) b hb
theorem m_next {e r n : Nat} (H : TgOk τ nm) (e0 : 0 < e) (he : e ≤ 5) (hr : r < 1000) (hn : n ≤ 13) {k1 k0 : Hp → Option (Int32 × Hp)} {h0 : Hp} {J : Nat} : ∀ (d t P : Nat) (h : Hp), RB τ e r h → RA τ e r d P h → h.1 155 43 = nI d → h.1 155 44 = nI n → h.1 173 d = nI t → d < n → t ≤ τ 2 → P < τ 2 ^ d → J = (P * τ 2 + t) * τ 2 ^ (n - 1 - d) → FS h0 h → (J < τ 2 ^ n ∧ ∃ h', itr1 (F_X13_nextRow_21 k1 k0) N0 h = k1 h' ∧ FS h0 h' ∧ RF τ e r n J h') ∨ (J = τ 2 ^ n ∧ ∃ h', itr1 (F_X13_nextRow_21 k1 k0) N0 h = k0 h' ∧ FS h0 h') := by
  intro d t P h R A a43 a44 a73 hd ht hP hJ hF
  have h8 := H.1.2.2.1
  refine itr1_loop (F := F_X13_nextRow_21 k1 k0) (fun q => (J < τ 2 ^ n ∧ ∃ h', q = k1 h' ∧ FS h0 h' ∧ RF τ e r n J h') ∨ (J = τ 2 ^ n ∧ ∃ h', q = k0 h' ∧ FS h0 h')) (fun m h => (∃ d t P, m = (if t = τ 2 then 100 + d else n - d) ∧ RB τ e r h ∧ RA τ e r d P h ∧ h.1 155 43 = nI d ∧ h.1 155 44 = nI n ∧ h.1 173 d = nI t ∧ d < n ∧ t ≤ τ 2 ∧ P < τ 2 ^ d ∧ J = (P * τ 2 + t) * τ 2 ^ (n - 1 - d) ∧ FS h0 h) ∨ (m = 0 ∧ J = τ 2 ^ n ∧ h.1 155 43 = -1 ∧ FS h0 h)) ?_ (if t = τ 2 then 100 + d else n - d) h N0 (by have := N0_big; by_cases z : t = τ 2; rw [if_pos z]; omega; rw [if_neg z]; omega) (Or.inl ⟨d, t, P, rfl, R, A, a43, a44, a73, hd, ht, hP, hJ, hF⟩)
  intro m self y hy
  rcases hy with ⟨d, t, P, hm, R, A, a43, a44, a73, hd, ht, hP, hJ, hF⟩ | ⟨hm, hJ, a43, hF⟩
  · obtain ⟨y2, ey2⟩ : ∃ q, q = sI y 173 d (nI (t + 1)) := ⟨_, rfl⟩
    have F2 : FS y y2 := by rw [ey2]; exact FS.ofI (by decide)
    have R2 := R.fs F2
    have A2 : RA τ e r d P y2 := by
      rw [ey2]
      refine ⟨fun i hi => ?_, fun i hi b hb => ?_⟩
      · rw [sI_ne1 (by decide), sI_nk1 (by omega)]; exact A.1 i hi
      · rw [sI_ne1 (by decide)]; exact A.2 i hi b hb
    have head : F_X13_nextRow_21 k1 k0 self y = (if nI t < nI (τ 2) then bnv (f_X13_step (nI t) y2) fun h9 => (if (h9.1 155 43) = (h9.1 155 44) then k1 h9 else if inb (h9.1 155 43) 14 = true then lt (sI h9 173 ((h9.1 155 43).toNatClampNeg) 0) fun h12 => self h12 else none) else lt (sI y2 155 43 ((y2.1 155 43) - 1)) fun h13 => self h13) := by
      unfold F_X13_nextRow_21
      rw [a43, if_neg (nI_pos (by omega)), if_pos (inb_nI (by omega) (by decide)), lt_s0, if_pos (inb_nI (by omega) (by decide)), if_pos (inb_nI (by omega) (by decide)), lt_s0, nI_clamp (by omega), a73, nI_1, ← ey2, li_2, clp (by omega), R2.1 2 (by omega) (by omega)]
    rw [head]
    by_cases h1 : t < τ 2
    · obtain ⟨y3, f3, F3, A3, b43, b44, -⟩ := m_step (w := t) R2 A2 H e0 he hr (by omega) h1 (by rw [ey2, sI_ne1 (by decide)]; exact a43) (by rw [ey2, sI_s])
      have b44' : y3.1 155 44 = nI n := by rw [b44, ey2, sI_ne1 (by decide)]; exact a44
      rw [if_pos (nI_lt h1 (by omega)), f3, bnvS, b43, b44']
      have PS : P * τ 2 + t < τ 2 ^ (d + 1) := by
        rw [Nat.pow_succ]
        have : (P + 1) * τ 2 ≤ τ 2 ^ d * τ 2 := Nat.mul_le_mul_right _ (by omega)
        rw [Nat.add_mul, Nat.one_mul] at this
        omega
      by_cases h2 : d + 1 = n
      · left
        left
        rw [show n - 1 - d = 0 by omega, Nat.pow_zero, Nat.mul_one] at hJ
        rw [h2] at PS b43 A3
        refine ⟨by omega, y3, by rw [if_pos (by rw [h2])], (hF.tr F2).tr F3, by rw [hJ]; exact A3, b43, b44'⟩
      · right
        refine ⟨n - (d + 1), sI y3 173 (d + 1) (nI 0), ?_, Or.inl ⟨d + 1, 0, P * τ 2 + t, by rw [if_neg (by omega)], (R2.fs F3).fs (FS.ofI (by decide)), ?_, ?_, ?_, sI_s, by omega, by omega, PS, ?_, ((hF.tr F2).tr F3).tr (FS.ofI (by decide))⟩, ?_⟩
        · rw [hm, if_neg (by omega)]
          omega
        · refine ⟨fun i hi => ?_, fun i hi b hb => ?_⟩
          · rw [sI_ne1 (by decide), sI_nk1 (by omega)]; exact A3.1 i hi
          · rw [sI_ne1 (by decide)]; exact A3.2 i hi b hb
        · rw [sI_ne1 (by decide)]; exact b43
        · rw [sI_ne1 (by decide)]; exact b44'
        · rw [hJ, Nat.add_zero, show n - 1 - d = (n - 1 - (d + 1)) + 1 by omega, Nat.pow_succ, Nat.mul_assoc, Nat.mul_comm (τ 2 ^ _) (τ 2)]
        · rw [if_neg (fun z => h2 ((nI_eq (by omega) (by omega)).mp z)), if_pos (inb_nI (by omega) (by decide)), lt_s0, nI_clamp (by omega)]
          rfl
    · have h2 : t = τ 2 := by omega
      right
      rw [if_neg (nI_nlt (by omega) (by omega)), lt_s0, show y2.1 155 43 = nI d by rw [ey2, sI_ne1 (by decide)]; exact a43]
      rw [h2, if_pos rfl] at hm
      cases d with
      | zero =>
        refine ⟨0, sI y2 155 43 (nI 0 - 1), by omega, Or.inr ⟨rfl, ?_, by rw [sI_s]; rfl, (hF.tr F2).tr (FS.of55 (Or.inl rfl))⟩, rfl⟩
        rw [Nat.pow_zero] at hP
        rw [hJ, show P = 0 by omega, Nat.zero_mul, Nat.zero_add, h2, Nat.sub_zero, show n = (n - 1) + 1 by omega, Nat.pow_succ, Nat.add_sub_cancel, Nat.mul_comm]
      | succ d =>
        have S0 : 0 < τ 2 := by
          apply Classical.byContradiction
          intro z
          rw [show τ 2 = 0 by omega, Nat.zero_pow (by omega)] at hP
          omega
        have dl := dgt_lt S0 (d + 1) P d
        have dv : dgt (τ 2) (d + 1) P d = P % τ 2 := by
          unfold dgt
          rw [show d + 1 - 1 - d = 0 by omega, Nat.pow_zero, Nat.div_one]
        have pd := Nat.div_add_mod P (τ 2)
        refine ⟨if dgt (τ 2) (d + 1) P d + 1 = τ 2 then 100 + d else n - d, sI y2 155 43 (nI d), ?_, Or.inl ⟨d, dgt (τ 2) (d + 1) P d + 1, P / τ 2, rfl, R2.fs (FS.of55 (Or.inl rfl)), ?_, sI_s, ?_, ?_, by omega, by omega, ?_, ?_, (hF.tr F2).tr (FS.of55 (Or.inl rfl))⟩, by rw [nI_pred]⟩
        · rw [hm]
          by_cases z : dgt (τ 2) (d + 1) P d + 1 = τ 2
          · rw [if_pos z]; omega
          · rw [if_neg z]; omega
        · have A3 := RA.up A2
          refine ⟨fun i hi => ?_, fun i hi b hb => ?_⟩
          · rw [sI_ne1 (by decide), sI_ne1 (by decide)]; exact A3.1 i hi
          · rw [sI_ne1 (by decide)]; exact A3.2 i hi b hb
        · rw [sI_nk1 (by decide), ey2, sI_ne1 (by decide)]; exact a44
        · rw [sI_ne1 (by decide)]; exact (A2.1 d (by omega)).2
        · exact Nat.div_lt_of_lt_mul (by rw [← pwS]; exact hP)
        · rw [hJ, h2, dv, ← Nat.add_assoc, Nat.mul_comm (P / τ 2), pd, show n - 1 - d = (n - 1 - (d + 1)) + 1 by omega, Nat.pow_succ, show P * τ 2 + τ 2 = (P + 1) * τ 2 by rw [Nat.add_mul, Nat.one_mul], Nat.mul_assoc, Nat.mul_comm (τ 2) (τ 2 ^ _)]
  · left
    right
    refine ⟨hJ, y, ?_, hF⟩
    unfold F_X13_nextRow_21
    rw [a43, if_pos (by decide)]
/-- the next row to come is j -/
def RN (τ : Nat → Nat) (e r n j : Nat) (h : Hp) : Prop := (j = 0 ∧ RA τ e r 0 0 h ∧ h.1 155 43 = nI 0 ∧ h.1 155 44 = nI n ∧ h.1 173 0 = nI 0) ∨ ∃ k, j = k + 1 ∧ k < τ 2 ^ n ∧ RF τ e r n k h
theorem m_nextRow {e r n j : Nat} (H : TgOk τ nm) (R : RB τ e r h) (e0 : 0 < e) (he : e ≤ 5) (hr : r < 1000) (hn : n ≤ 13) (n1 : 1 ≤ n) (N : RN τ e r n j h) (hj : j ≤ τ 2 ^ n) : (j < τ 2 ^ n ∧ ∃ h', f_X13_nextRow h = some (1, h') ∧ FS h h' ∧ RF τ e r n j h') ∨ (j = τ 2 ^ n ∧ ∃ h', f_X13_nextRow h = some (0, h') ∧ FS h h') := by
  rcases N with ⟨j0, A, a43, a44, a73⟩ | ⟨k, jk, hk, A, a43, a44⟩
  · have := m_next (n := n) H e0 he hr hn (k1 := fun h14 => some (1, h14)) (k0 := fun h15 => some (0, h15)) (h0 := h) (J := j) 0 0 0 h R A a43 a44 a73 (by omega) (by omega) (by rw [Nat.pow_zero]; omega) (by rw [j0, Nat.zero_mul, Nat.zero_add, Nat.zero_mul]) FS.rf
    have fe : f_X13_nextRow h = itr1 (F_X13_nextRow_21 (fun h14 => some (1, h14)) (fun h15 => some (0, h15))) N0 h := by
      unfold f_X13_nextRow
      rw [a43, a44, if_neg (fun z => by have := (nI_eq (by omega) (by omega)).mp z; omega)]
    rw [fe]
    exact this
  · obtain ⟨n, rfl⟩ : ∃ q, n = q + 1 := ⟨n - 1, by omega⟩
    have S0 : 0 < τ 2 := by
      apply Classical.byContradiction
      intro z
      rw [show τ 2 = 0 by omega, Nat.zero_pow (by omega)] at hk
      omega
    have dl := dgt_lt S0 (n + 1) k n
    have dv : dgt (τ 2) (n + 1) k n = k % τ 2 := by
      unfold dgt
      rw [show n + 1 - 1 - n = 0 by omega, Nat.pow_zero, Nat.div_one]
    have pd := Nat.div_add_mod k (τ 2)
    have A3 := RA.up A
    have := m_next (n := n + 1) H e0 he hr hn (k1 := fun h14 => some (1, h14)) (k0 := fun h15 => some (0, h15)) (h0 := h) (J := j) n (dgt (τ 2) (n + 1) k n + 1) (k / τ 2) (sI h 155 43 (nI n)) (R.fs (FS.of55 (Or.inl rfl))) ⟨fun i hi => by rw [sI_ne1 (by decide), sI_ne1 (by decide)]; exact A3.1 i hi, fun i hi b hb => by rw [sI_ne1 (by decide)]; exact A3.2 i hi b hb⟩ sI_s (by rw [sI_nk1 (by decide)]; exact a44) (by rw [sI_ne1 (by decide)]; exact (A.1 n (by omega)).2) (by omega) (by omega) (Nat.div_lt_of_lt_mul (by rw [← pwS]; exact hk)) (by rw [jk, dv, show n + 1 - 1 - n = 0 by omega, Nat.pow_zero, Nat.mul_one, Nat.mul_comm (k / τ 2)]; omega) (FS.of55 (Or.inl rfl))
    have fe : f_X13_nextRow h = itr1 (F_X13_nextRow_21 (fun h14 => some (1, h14)) (fun h15 => some (0, h15))) N0 (sI h 155 43 (nI n)) := by
      unfold f_X13_nextRow
      rw [a43, a44, if_pos rfl, lt_s0, nI_pred]
    rw [fe]
    exact this
end TH
