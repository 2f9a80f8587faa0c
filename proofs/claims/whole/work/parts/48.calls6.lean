section T2
variable {tp : List Nat} {σ τ : Nat → Nat} {nm : Nat → List Nat} {K : Im} {fd : List Nat} {fl : Nat} {tn : Option Tn} {h h' : Hp}
/-- the first of n for which p holds; n: none -/
def fst (p : Nat → Bool) : Nat → Nat
  | 0 => 0
  | n + 1 => if fst p n < n then fst p n else if p n = true then n else n + 1
theorem fst_spec (p : Nat → Bool) : ∀ n, fst p n ≤ n ∧ (∀ i, i < fst p n → p i = false) ∧ (fst p n < n → p (fst p n) = true)
  | 0 => ⟨Nat.le_refl _, fun i hi => absurd hi (Nat.not_lt_zero _), fun z => absurd z (Nat.not_lt_zero _)⟩
  | n + 1 => by
    obtain ⟨a, b, c⟩ := fst_spec p n
    unfold fst
    by_cases h1 : fst p n < n
    · rw [if_pos h1]
      exact ⟨by omega, b, fun _ => c h1⟩
    · have e : fst p n = n := by omega
      rw [if_neg h1]
      rw [e] at b
      by_cases h2 : p n = true
      · rw [if_pos h2]
        exact ⟨by omega, b, fun _ => h2⟩
      · rw [if_neg h2]
        refine ⟨by omega, fun i hi => ?_, fun z => by omega⟩
        by_cases h3 : i = n
        · rw [h3]; exact Bool.eq_false_iff.mpr h2
        · exact b i (by omega)
/-! DRAWN -/
def pw (σ : Nat → Nat) : Nat → Nat
  | 0 => 0
  | n + 1 => pw σ n + σ (48 + n)
theorem pw_le (H : TgOk σ nm) : ∀ n, n ≤ σ 2 → n ≤ pw σ n ∧ pw σ n ≤ 60 * n
  | 0, _ => ⟨Nat.le_refl _, Nat.le_refl _⟩
  | n + 1, hn => by
    have a := pw_le H n (by omega)
    have b := H.2.2.2.1 n (by omega)
    unfold pw
    omega
def sx (x : Int32) : Nat → Int32
  | 0 => x
  | n + 1 => sx x n * 1103515245 + 12345
def sel (σ : Nat → Nat) (d : Nat) : Nat := fst (fun w => decide (d < pw σ (w + 1))) (σ 2)
theorem sel_lt {d : Nat} (h2 : 0 < σ 2) (hd : d < pw σ (σ 2)) : sel σ d < σ 2 ∧ (∀ i, i < sel σ d → pw σ (i + 1) ≤ d) ∧ d < pw σ (sel σ d + 1) := by
  obtain ⟨a, b, c⟩ := fst_spec (fun w => decide (d < pw σ (w + 1))) (σ 2)
  have lt : sel σ d < σ 2 := by
    apply Classical.byContradiction
    intro z
    have e : fst (fun w => decide (d < pw σ (w + 1))) (σ 2) = σ 2 := by
      have : ¬ fst (fun w => decide (d < pw σ (w + 1))) (σ 2) < σ 2 := z
      omega
    have := b (σ 2 - 1) (by omega)
    rw [show σ 2 - 1 + 1 = σ 2 by omega] at this
    exact absurd hd (of_decide_eq_false this)
  refine ⟨lt, fun i hi => ?_, of_decide_eq_true (c lt)⟩
  have := of_decide_eq_false (b i hi)
  omega
theorem ushr8 (x : Int32) : jushr x (nI 8) = nI (x.toBitVec.toNat / 256) := by
  apply Int32.toBitVec_inj.mp
  apply BitVec.eq_of_toNat_eq
  rw [pk_tn (by have := x.toBitVec.isLt; omega)]
  exact pk_ushr x (nI 8) 8 (by decide)
theorem c_allWeighs {t : Nat} (T : TgRep h t σ nm) (H : TgOk σ nm) : f_X10_allWeighs t h = some (nI (pw σ (σ 2)), h) := by
  have t2 := T.1.2.2.1
  have t6 : ∀ w, w < σ 2 → h.1 (t + 6) w = nI (σ (48 + w)) := fun w hw => (T.2.2.2.2.1 w hw).2.1
  have h8 := H.1.2.2.1
  unfold f_X10_allWeighs
  refine sq3 (σ 2) (fun i => nI (pw σ i)) (fun i => nI i) (fun _ => h) (fun self => ?_) (fun self i hi => ?_) (by omega) rfl rfl rfl
  · unfold F_X10_allWeighs_4
    simp (disch := omega) only [li_0, li_1, li_2, li_3, li_4, li_5, li_6, li_7, li_8, li_9, li_10, li_12, li_13, li_14, li_15, li_16, li_20, li_24, li_25, li_31, li_32, li_40, li_48, li_54, li_56, li_64, li_72, li_97, li_99, li_100, li_112, li_122, li_144, li_145, li_155, li_157, li_200, li_216, li_255, li_256, li_432, li_437, li_438, li_462, li_463, li_713, li_900, li_940, lL_0, lL_1, lL_255, lL_1099511627776, neg_1, ltT, ltF, leT, leF, eqT, eqF, ltMT, ltMF, leMT, leMF, eqMF, eqMF', addM, inbT, clp, nI_add, subN, pk_mul, nzT, remN, shl1, bitN, bit0, bit1, lcE, lcLE, lcLT, LleT, LleF, LltT, LltF, LeqT, LeqF, ↓bndS, ↓bnvS, ↓lt_s1, bndS, bnvS, eq_self, ↓reduceIte, t2]
  · have e : pw σ (i + 1) = pw σ i + σ (48 + i) := rfl
    unfold F_X10_allWeighs_4
    simp (disch := omega) only [li_0, li_1, li_2, li_3, li_4, li_5, li_6, li_7, li_8, li_9, li_10, li_12, li_13, li_14, li_15, li_16, li_20, li_24, li_25, li_31, li_32, li_40, li_48, li_54, li_56, li_64, li_72, li_97, li_99, li_100, li_112, li_122, li_144, li_145, li_155, li_157, li_200, li_216, li_255, li_256, li_432, li_437, li_438, li_462, li_463, li_713, li_900, li_940, lL_0, lL_1, lL_255, lL_1099511627776, neg_1, ltT, ltF, leT, leF, eqT, eqF, ltMT, ltMF, leMT, leMF, eqMF, eqMF', addM, inbT, clp, nI_add, subN, pk_mul, nzT, remN, shl1, bitN, bit0, bit1, lcE, lcLE, lcLT, LleT, LleF, LltT, LltF, LeqT, LeqF, ↓bndS, ↓bnvS, ↓lt_s1, bndS, bnvS, eq_self, ↓reduceIte, t2, t6, e]
theorem c_weighedAt {t d : Nat} (T : TgRep h t σ nm) (H : TgOk σ nm) (h2 : 0 < σ 2) (hd : d < pw σ (σ 2)) : f_X10_weighedAt t (nI d) h = some (nI (sel σ d), h) := by
  have t2 := T.1.2.2.1
  have t6 : ∀ w, w < σ 2 → h.1 (t + 6) w = nI (σ (48 + w)) := fun w hw => (T.2.2.2.2.1 w hw).2.1
  have h8 := H.1.2.2.1
  have pl := (pw_le H (σ 2) (Nat.le_refl _)).2
  obtain ⟨a, b, c⟩ := sel_lt h2 hd
  have c' := c
  have e : pw σ (sel σ d + 1) = pw σ (sel σ d) + σ (48 + sel σ d) := rfl
  have pl2 := (pw_le H (sel σ d) (by omega)).2
  have pl3 := (pw_le H (sel σ d + 1) (by omega)).2
  rw [e] at c'
  unfold f_X10_weighedAt
  refine sq3 (sel σ d) (fun i => nI (pw σ i)) (fun i => nI i) (fun _ => h) (fun self => ?_) (fun self i hi => ?_) (by omega) rfl rfl rfl
  · unfold F_X10_weighedAt_4
    by_cases h1 : sel σ d = σ 2 - 1
    · rw [h1]
      simp (disch := omega) only [li_0, li_1, li_2, li_3, li_4, li_5, li_6, li_7, li_8, li_9, li_10, li_12, li_13, li_14, li_15, li_16, li_20, li_24, li_25, li_31, li_32, li_40, li_48, li_54, li_56, li_64, li_72, li_97, li_99, li_100, li_112, li_122, li_144, li_145, li_155, li_157, li_200, li_216, li_255, li_256, li_432, li_437, li_438, li_462, li_463, li_713, li_900, li_940, lL_0, lL_1, lL_255, lL_1099511627776, neg_1, ltT, ltF, leT, leF, eqT, eqF, ltMT, ltMF, leMT, leMF, eqMF, eqMF', addM, inbT, clp, nI_add, subN, pk_mul, nzT, remN, shl1, bitN, bit0, bit1, lcE, lcLE, lcLT, LleT, LleF, LltT, LltF, LeqT, LeqF, ↓bndS, ↓bnvS, ↓lt_s1, bndS, bnvS, eq_self, ↓reduceIte, t2]
    · simp (disch := omega) only [li_0, li_1, li_2, li_3, li_4, li_5, li_6, li_7, li_8, li_9, li_10, li_12, li_13, li_14, li_15, li_16, li_20, li_24, li_25, li_31, li_32, li_40, li_48, li_54, li_56, li_64, li_72, li_97, li_99, li_100, li_112, li_122, li_144, li_145, li_155, li_157, li_200, li_216, li_255, li_256, li_432, li_437, li_438, li_462, li_463, li_713, li_900, li_940, lL_0, lL_1, lL_255, lL_1099511627776, neg_1, ltT, ltF, leT, leF, eqT, eqF, ltMT, ltMF, leMT, leMF, eqMF, eqMF', addM, inbT, clp, nI_add, subN, pk_mul, nzT, remN, shl1, bitN, bit0, bit1, lcE, lcLE, lcLT, LleT, LleF, LltT, LltF, LeqT, LeqF, ↓bndS, ↓bnvS, ↓lt_s1, bndS, bnvS, eq_self, ↓reduceIte, t2, t6]
  · have e : pw σ (i + 1) = pw σ i + σ (48 + i) := rfl
    have bi := b i hi
    rw [e] at bi
    have pl4 := (pw_le H i (by omega)).2
    have hw := (H.2.2.2.1 i (by omega)).2.2.1
    unfold F_X10_weighedAt_4
    simp (disch := omega) only [li_0, li_1, li_2, li_3, li_4, li_5, li_6, li_7, li_8, li_9, li_10, li_12, li_13, li_14, li_15, li_16, li_20, li_24, li_25, li_31, li_32, li_40, li_48, li_54, li_56, li_64, li_72, li_97, li_99, li_100, li_112, li_122, li_144, li_145, li_155, li_157, li_200, li_216, li_255, li_256, li_432, li_437, li_438, li_462, li_463, li_713, li_900, li_940, lL_0, lL_1, lL_255, lL_1099511627776, neg_1, ltT, ltF, leT, leF, eqT, eqF, ltMT, ltMF, leMT, leMF, eqMF, eqMF', addM, inbT, clp, nI_add, subN, pk_mul, nzT, remN, shl1, bitN, bit0, bit1, lcE, lcLE, lcLT, LleT, LleF, LltT, LltF, LeqT, LeqF, ↓bndS, ↓bnvS, ↓lt_s1, bndS, bnvS, eq_self, ↓reduceIte, t2, t6, e]
def drw (σ : Nat → Nat) (x : Int32) (i : Nat) : Nat := sel σ ((sx x (i + 1)).toBitVec.toNat / 256 % pw σ (σ 2))
theorem jremN {a d : Nat} (ha : a < 2147483648) (h0 : 0 < d) (hd : d < 2147483648) : jrem (nI a) (nI d) = nI (a % d) := remN ha h0 hd
theorem sx_s (x : Int32) (n : Nat) : sx x n * 1103515245 + 12345 = sx x (n + 1) := rfl
theorem st_drawn (x y : Int32) (hI : Inv h) : ∃ v h1 h2, f_X12_drawn x y h = some (v, h1) ∧ f_X13_drawn x y h1 = some (v, h2) ∧ Inv h2 := by
  obtain ⟨tp, σ, nm, K, fd, fl, tn, hA, hC, hM⟩ := hI
  have hS := hA.2.1
  have H := hS.1
  have h8 := H.1.2.2.1
  have M1 := hM.keep (th_Eq 0)
  have ca := c_allWeighs hC.2.1.1 H
  have pl := pw_le H (σ 2) (Nat.le_refl _)
  have NO : (f_X12_drawn x y h = some (-1, h)) → (f_X13_drawn x y h = some (-1, sI h 155 0 0)) → ∃ v h1 h2, f_X12_drawn x y h = some (v, h1) ∧ f_X13_drawn x y h1 = some (v, h2) ∧ Inv h2 := fun a b => ⟨-1, h, sI h 155 0 0, a, b, tp, σ, nm, K, fd, fl, tn, hA, hC.lo hA (th_Lo 0), M1⟩
  rcases m_isIn x (lo := 1) (hi := 24) (a := 1) (b := 24) (sI h 155 0 0) rfl rfl (by decide) (by decide) with ⟨e, q⟩ | ⟨n, q1, q2, rfl, e⟩
  · refine NO ?_ ?_
    · unfold f_X12_drawn
      rw [show (6 + 1 : Nat) = 7 from rfl] at ca
      rw [ca, bndS]
      by_cases h1 : x < 1
      · rw [if_pos h1]
      · rw [if_neg h1, if_pos]
        apply Classical.byContradiction
        intro z
        obtain ⟨j, h2, h3, h4⟩ := in_range (a := 1) (b := 24) (by decide) (by decide) h1 z
        exact q j h2 h3 h4
    · unfold f_X13_drawn
      rw [lt_s0, e, bndS, if_pos rfl]
  · by_cases h0 : σ 2 = 0
    · refine NO ?_ ?_
      · unfold f_X12_drawn
        rw [show (6 + 1 : Nat) = 7 from rfl] at ca
        rw [ca, bndS, li_1, li_24, if_neg (nI_nlt q1 (by omega)), if_neg (nI_nlt q2 (by omega)), h0]
        rfl
      · unfold f_X13_drawn
        rw [lt_s0, e, bndS, if_neg (by decide), li_2, clp (by omega), M1.2.1 2 (by omega), h0]
        rfl
    · have h2 : 0 < σ 2 := by omega
      have pp : 0 < pw σ (σ 2) := by omega
      have dl : ∀ z : Nat, z % pw σ (σ 2) < pw σ (σ 2) := fun z => Nat.mod_lt _ pp
      -- the class
      obtain ⟨z, g, e1, hz, p1, p2, p3⟩ := loop3f (F := F_X12_drawn_49 (nI n) (nI (pw σ (σ 2))) (fun h13 => some (nI n, h13))) (k := fun _ h13 => some (nI n, h13)) 0 n (by omega) (fun i z g => z = sx y i ∧ g.1 18 1 = nI i ∧ (∀ j, j < i → g.1 19 j = nI (drw σ y j)) ∧ Same [18, 19] h g) (fun self z g _ => by
          unfold F_X12_drawn_49
          simp (disch := omega) only [li_0, li_1, li_2, li_3, li_4, li_5, li_6, li_7, li_8, li_9, li_10, li_12, li_13, li_14, li_15, li_16, li_20, li_24, li_25, li_31, li_32, li_40, li_48, li_54, li_56, li_64, li_72, li_97, li_99, li_100, li_112, li_122, li_144, li_145, li_155, li_157, li_200, li_216, li_255, li_256, li_432, li_437, li_438, li_462, li_463, li_713, li_900, li_940, lL_0, lL_1, lL_255, lL_1099511627776, neg_1, ltT, ltF, leT, leF, eqT, eqF, ltMT, ltMF, leMT, leMF, eqMF, eqMF', addM, inbT, clp, nI_add, subN, pk_mul, nzT, remN, shl1, bitN, bit0, bit1, lcE, lcLE, lcLT, LleT, LleF, LltT, LltF, LeqT, LeqF, ↓bndS, ↓bnvS, ↓lt_s1, bndS, bnvS, eq_self, ↓reduceIte]) (fun self i z g _ hi ⟨w0, w1, w2, w3⟩ => by
          have Tg : TgRep g 7 σ nm := hC.2.1.1.kept (fun q z1 z2 => ⟨(w3 q (by simp; omega)).1, (w3 q (by simp; omega)).2.1⟩)
          have cw := c_weighedAt (d := (sx y (i + 1)).toBitVec.toNat / 256 % pw σ (σ 2)) Tg H h2 (dl _)
          have rp := row_put (r := 18) (h := g) (v := nI (drw σ y i)) w1 (show i < 24 by omega) (by decide)
          have lx := (sx y (i + 1)).toBitVec.isLt
          have jr := remN (a := (sx y (i + 1)).toBitVec.toNat / 256) (d := pw σ (σ 2)) (by omega) pp (by omega)
          refine ⟨sx y (i + 1), sI (sI g (18 + 1) i (nI (drw σ y i))) 18 1 (nI (i + 1)), ?_, rfl, sI_s, fun j hj => ?_, w3.tr ((Same.ofI (by decide)).tr (Same.ofI (by decide)))⟩
          · unfold F_X12_drawn_49
            rw [w0, if_neg (nI_ge hi (by omega)), lt_s0, sx_s, if_pos (by simp (disch := omega) only [li_0, li_1, li_2, li_3, li_4, li_5, li_6, li_7, li_8, li_9, li_10, li_12, li_13, li_14, li_15, li_16, li_20, li_24, li_25, li_31, li_32, li_40, li_48, li_54, li_56, li_64, li_72, li_97, li_99, li_100, li_112, li_122, li_144, li_145, li_155, li_157, li_200, li_216, li_255, li_256, li_432, li_437, li_438, li_462, li_463, li_713, li_900, li_940, lL_0, lL_1, lL_255, lL_1099511627776, neg_1, ltT, ltF, leT, leF, eqT, eqF, ltMT, ltMF, leMT, leMF, eqMF, eqMF', addM, inbT, clp, nI_add, subN, pk_mul, nzT, remN, shl1, bitN, bit0, bit1, lcE, lcLE, lcLT, LleT, LleF, LltT, LltF, LeqT, LeqF, ↓bndS, ↓bnvS, ↓lt_s1, bndS, bnvS, eq_self, ↓reduceIte]), li_8, ushr8, jr, cw, bndS]
            show bnv (f_X7_put 18 (nI (drw σ y i)) g) _ = _
            rw [rp, bnvS, nI_1]
          · rw [sI_ne1 (by decide)]
            by_cases hj2 : j = i
            · subst hj2
              rw [show (19 : Nat) = 18 + 1 from rfl, sI_s]
            · rw [sI_nk1 hj2]
              exact w2 j (by omega)) y (sI h 18 1 (nI 0)) ⟨rfl, sI_s, fun j hj => by omega, Same.ofI (by decide)⟩ (by omega)
      obtain ⟨l, el⟩ : ∃ l, l = (List.range n).map (drw σ y) := ⟨_, rfl⟩
      have ll : l.length = n := by rw [el]; simp
      have lg : ∀ i, i < n → l.getD i 0 = drw σ y i := fun i hi => by rw [el]; simp [List.getD_eq_getElem?_getD, hi]
      have lm : ∀ x ∈ l, x < σ 2 := fun x hx => by
        rw [el] at hx
        obtain ⟨i, -, rfl⟩ := List.mem_map.mp hx
        exact (sel_lt h2 (dl _)).1
      have A2 := hA.text (l := l) (by omega) lm
      have C2 : CR tp (txS σ l) nm K fd fl tn g := hC.text hA (fun k hk => txS_out (by omega) hk) p3 (by decide) (by rw [txS_n, ll]; exact p1) (fun k hk => by
        rw [txS_n, ll] at hk
        rw [txS_at (by omega), lg k hk]
        exact p2 k hk)
      -- the reference
      have Mg : MR tp σ nm K fd fl tn (sI g 155 0 0) := (hM.hi (p3.hi (by decide))).keep (th_Eq 0)
      have Mg2 : MR tp σ nm K fd fl tn (sI (sI g 155 0 0) 155 24 y) := Mg.keep (EqM.ofI (by decide) (fun _ => by decide))
      obtain ⟨g0, eg0⟩ : ∃ q, q = sI (sI g 155 0 0) 155 24 y := ⟨_, rfl⟩
      rw [← eg0] at Mg2
      have L0 : Lo g g0 := by rw [eg0]; exact (th_Lo 0).tr ((Same.ofI (X := [155]) (by decide)).lo (by decide))
      obtain ⟨g2, e2, r1, r2, r3, r4⟩ := loop2f (F := F_X13_drawn_69 (nI n) (nI (pw σ (σ 2))) (fun h23 => bnv (f_X13_keep 163 (nI n) h23) fun h24 => some (nI n, h24))) (k := fun h23 => bnv (f_X13_keep 163 (nI n) h23) fun h24 => some (nI n, h24)) 0 n (by omega) (fun i q => q.1 155 24 = sx y i ∧ (∀ j, j < i → q.1 163 j = nI (drw σ y j)) ∧ MR tp σ nm K fd fl tn q ∧ Lo g0 q) (fun self q _ => by
          unfold F_X13_drawn_69
          simp (disch := omega) only [li_0, li_1, li_2, li_3, li_4, li_5, li_6, li_7, li_8, li_9, li_10, li_12, li_13, li_14, li_15, li_16, li_20, li_24, li_25, li_31, li_32, li_40, li_48, li_54, li_56, li_64, li_72, li_97, li_99, li_100, li_112, li_122, li_144, li_145, li_155, li_157, li_200, li_216, li_255, li_256, li_432, li_437, li_438, li_462, li_463, li_713, li_900, li_940, lL_0, lL_1, lL_255, lL_1099511627776, neg_1, ltT, ltF, leT, leF, eqT, eqF, ltMT, ltMF, leMT, leMF, eqMF, eqMF', addM, inbT, clp, nI_add, subN, pk_mul, nzT, remN, shl1, bitN, bit0, bit1, lcE, lcLE, lcLT, LleT, LleF, LltT, LltF, LeqT, LeqF, ↓bndS, ↓bnvS, ↓lt_s1, bndS, bnvS, eq_self, ↓reduceIte]) (fun self i q _ hi ⟨w0, w1, w2, w3⟩ => by
          have lx := (sx y (i + 1)).toBitVec.isLt
          have jr := remN (a := (sx y (i + 1)).toBitVec.toNat / 256) (d := pw σ (σ 2)) (by omega) pp (by omega)
          obtain ⟨d, ed⟩ : ∃ d, d = (sx y (i + 1)).toBitVec.toNat / 256 % pw σ (σ 2) := ⟨_, rfl⟩
          have dd : d < pw σ (σ 2) := by rw [ed]; exact dl _
          have dr : drw σ y i = sel σ d := by rw [ed]; rfl
          obtain ⟨s1, s2, s3⟩ := sel_lt h2 dd
          obtain ⟨q2, eq2⟩ : ∃ z, z = sI q 155 24 (sx y (i + 1)) := ⟨_, rfl⟩
          have N2 : MR tp σ nm K fd fl tn q2 := by rw [eq2]; exact w2.keep (EqM.ofI (by decide) (fun _ => by decide))
          have ms := N2.2.1
          have dw : f_X13_draw (nI (pw σ (σ 2))) q = some (nI d, q2) := by
            unfold f_X13_draw
            rw [lt_s0, w0, sx_s, if_pos (by simp (disch := omega) only [li_0, li_1, li_2, li_3, li_4, li_5, li_6, li_7, li_8, li_9, li_10, li_12, li_13, li_14, li_15, li_16, li_20, li_24, li_25, li_31, li_32, li_40, li_48, li_54, li_56, li_64, li_72, li_97, li_99, li_100, li_112, li_122, li_144, li_145, li_155, li_157, li_200, li_216, li_255, li_256, li_432, li_437, li_438, li_462, li_463, li_713, li_900, li_940, lL_0, lL_1, lL_255, lL_1099511627776, neg_1, ltT, ltF, leT, leF, eqT, eqF, ltMT, ltMF, leMT, leMF, eqMF, eqMF', addM, inbT, clp, nI_add, subN, pk_mul, nzT, remN, shl1, bitN, bit0, bit1, lcE, lcLE, lcLT, LleT, LleF, LltT, LltF, LeqT, LeqF, ↓bndS, ↓bnvS, ↓lt_s1, bndS, bnvS, eq_self, ↓reduceIte]), sI_s, li_8, ushr8, jr, ← eq2, ed]
          have inn : ∀ kk : Int32 → Hp → Option (Int32 × Hp), itr3 (F_X13_drawn_94 (nI n) (nI (pw σ (σ 2))) (nI i) (nI d) kk) N0 (nI 0) (nI (σ 48)) q2 = kk (nI (sel σ d)) q2 := fun kk => by
            refine sq3 (sel σ d) (fun i => nI i) (fun i => nI (pw σ (i + 1))) (fun _ => q2) (fun self => ?_) (fun self i hi => ?_) (by omega) rfl (by show nI (0 + σ (48 + 0)) = _; rw [Nat.zero_add]) rfl
            · have pl3 := (pw_le H (sel σ d + 1) (by omega)).2
              unfold F_X13_drawn_94
              simp (disch := omega) only [li_0, li_1, li_2, li_3, li_4, li_5, li_6, li_7, li_8, li_9, li_10, li_12, li_13, li_14, li_15, li_16, li_20, li_24, li_25, li_31, li_32, li_40, li_48, li_54, li_56, li_64, li_72, li_97, li_99, li_100, li_112, li_122, li_144, li_145, li_155, li_157, li_200, li_216, li_255, li_256, li_432, li_437, li_438, li_462, li_463, li_713, li_900, li_940, lL_0, lL_1, lL_255, lL_1099511627776, neg_1, ltT, ltF, leT, leF, eqT, eqF, ltMT, ltMF, leMT, leMF, eqMF, eqMF', addM, inbT, clp, nI_add, subN, pk_mul, nzT, remN, shl1, bitN, bit0, bit1, lcE, lcLE, lcLT, LleT, LleF, LltT, LltF, LeqT, LeqF, ↓bndS, ↓bnvS, ↓lt_s1, bndS, bnvS, eq_self, ↓reduceIte]
            · have bi := s2 i hi
              have pl3 := (pw_le H (i + 1 + 1) (by omega)).2
              have e : pw σ (i + 1 + 1) = pw σ (i + 1) + σ (48 + (i + 1)) := rfl
              unfold F_X13_drawn_94
              simp (disch := omega) only [li_0, li_1, li_2, li_3, li_4, li_5, li_6, li_7, li_8, li_9, li_10, li_12, li_13, li_14, li_15, li_16, li_20, li_24, li_25, li_31, li_32, li_40, li_48, li_54, li_56, li_64, li_72, li_97, li_99, li_100, li_112, li_122, li_144, li_145, li_155, li_157, li_200, li_216, li_255, li_256, li_432, li_437, li_438, li_462, li_463, li_713, li_900, li_940, lL_0, lL_1, lL_255, lL_1099511627776, neg_1, ltT, ltF, leT, leF, eqT, eqF, ltMT, ltMF, leMT, leMF, eqMF, eqMF', addM, inbT, clp, nI_add, subN, pk_mul, nzT, remN, shl1, bitN, bit0, bit1, lcE, lcLE, lcLT, LleT, LleF, LltT, LltF, LeqT, LeqF, ↓bndS, ↓bnvS, ↓lt_s1, bndS, bnvS, eq_self, ↓reduceIte, ms, e]
          refine ⟨sI q2 163 i (nI (drw σ y i)), ?_, ?_, fun j hj => ?_, ?_, ?_⟩
          · unfold F_X13_drawn_69
            rw [if_neg (nI_ge hi (by omega)), dw, bndS, lt_s0, li_48, clp (n := 48) (by omega), ms 48 (by omega), li_0, inn, if_pos (inb_nI (by omega) (by decide)), lt_s0, nI_clamp (by omega), nI_1, dr]
          · rw [sI_ne1 (by decide), eq2, sI_s]
          · by_cases hj2 : j = i
            · subst hj2
              rw [sI_s]
            · rw [sI_nk1 hj2, eq2, sI_ne1 (by decide)]
              exact w1 j (by omega)
          · exact N2.scr (Same.ofI (X := [163]) (by decide)) (by decide)
          · refine w3.tr (Lo.tr ?_ ((Same.ofI (X := [163]) (by decide)).lo (by decide)))
            rw [eq2]
            exact (Same.ofI (X := [155]) (by decide)).lo (by decide)) g0 ⟨by rw [eg0, sI_s]; rfl, fun j hj => by omega, Mg2, Lo.rf⟩ (by omega)
      obtain ⟨g3, e3, s3, m3⟩ := m_keep (l := l) r3.2.1 (by omega) (fun i hi => by rw [lg i (by omega)]; exact r2 i (by omega))
      rw [ll] at e3
      have allw : ∀ kk : Int32 → Hp → Option (Int32 × Hp), itr3 (F_X13_drawn_31 (nI n) y kk) N0 (nI 0) (nI 0) (sI g 155 0 0) = kk (nI (pw σ (σ 2))) (sI g 155 0 0) := fun kk => by
        have ms := Mg.2.1
        obtain ⟨gg, egg⟩ : ∃ q, q = sI g 155 0 0 := ⟨_, rfl⟩
        rw [← egg] at ms ⊢
        refine sq3 (σ 2) (fun i => nI (pw σ i)) (fun i => nI i) (fun _ => gg) (fun self => ?_) (fun self i hi => ?_) (by omega) rfl rfl rfl
        · unfold F_X13_drawn_31
          simp (disch := omega) only [li_0, li_1, li_2, li_3, li_4, li_5, li_6, li_7, li_8, li_9, li_10, li_12, li_13, li_14, li_15, li_16, li_20, li_24, li_25, li_31, li_32, li_40, li_48, li_54, li_56, li_64, li_72, li_97, li_99, li_100, li_112, li_122, li_144, li_145, li_155, li_157, li_200, li_216, li_255, li_256, li_432, li_437, li_438, li_462, li_463, li_713, li_900, li_940, lL_0, lL_1, lL_255, lL_1099511627776, neg_1, ltT, ltF, leT, leF, eqT, eqF, ltMT, ltMF, leMT, leMF, eqMF, eqMF', addM, inbT, clp, nI_add, subN, pk_mul, nzT, remN, shl1, bitN, bit0, bit1, lcE, lcLE, lcLT, LleT, LleF, LltT, LltF, LeqT, LeqF, ↓bndS, ↓bnvS, ↓lt_s1, bndS, bnvS, eq_self, ↓reduceIte, ms]
        · have e : pw σ (i + 1) = pw σ i + σ (48 + i) := rfl
          unfold F_X13_drawn_31
          simp (disch := omega) only [li_0, li_1, li_2, li_3, li_4, li_5, li_6, li_7, li_8, li_9, li_10, li_12, li_13, li_14, li_15, li_16, li_20, li_24, li_25, li_31, li_32, li_40, li_48, li_54, li_56, li_64, li_72, li_97, li_99, li_100, li_112, li_122, li_144, li_145, li_155, li_157, li_200, li_216, li_255, li_256, li_432, li_437, li_438, li_462, li_463, li_713, li_900, li_940, lL_0, lL_1, lL_255, lL_1099511627776, neg_1, ltT, ltF, leT, leF, eqT, eqF, ltMT, ltMF, leMT, leMF, eqMF, eqMF', addM, inbT, clp, nI_add, subN, pk_mul, nzT, remN, shl1, bitN, bit0, bit1, lcE, lcLE, lcLT, LleT, LleF, LltT, LltF, LeqT, LeqF, ↓bndS, ↓bnvS, ↓lt_s1, bndS, bnvS, eq_self, ↓reduceIte, ms, e]
      refine ⟨nI n, g, g3, ?_, ?_, tp, txS σ l, nm, K, fd, fl, tn, A2, C2.lo A2 (L0.tr (r4.tr (s3.lo (by decide)))), r3.sig (fun k hk => txS_out (by omega) (by omega)) s3 m3⟩
      · unfold f_X12_drawn
        rw [show (6 + 1 : Nat) = 7 from rfl] at ca
        rw [ca, bndS, li_1, li_24, li_0, if_neg (nI_nlt q1 (by omega)), if_neg (nI_nlt q2 (by omega)), if_pos (nI_lt pp (by omega)), lt_s0, e1]
      · have e' : f_X13_isIn (nI n) 1 24 (sI g 155 0 0) = some (1, sI g 155 0 0) := m_isIn_t (a := 1) (b := 24) (j := n) _ rfl rfl rfl q1 q2 (by decide)
        unfold f_X13_drawn
        rw [lt_s0, e', bndS, if_neg (by decide), li_2, clp (by omega), Mg.2.1 2 (by omega), if_neg (by rw [li_0]; exact fun z => h0 ((nI_eq (by omega) (by omega)).mp z))]
        rw [li_0]
        rw [li_0] at allw eg0
        rw [allw, lt_s0, ← eg0, e2, e3, bnvS]
end T2
