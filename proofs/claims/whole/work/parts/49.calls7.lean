section T3
variable {tp : List Nat} {σ τ : Nat → Nat} {nm : Nat → List Nat} {K : Im} {fd : List Nat} {fl : Nat} {tn : Option Tn} {h h' : Hp}
/-! SAFE -/
def bc (x0 : Int32) : Int32 :=
  lt (x0 - ((jushr x0 1) &&& 1431655765)) fun v1 =>
  lt ((v1 &&& 858993459) + ((jushr v1 2) &&& 858993459)) fun v2 =>
  lt ((v2 + (jushr v2 4)) &&& 252645135) fun v3 =>
  lt (v3 + (jushr v3 8)) fun v4 =>
  lt (v4 + (jushr v4 16)) fun v5 => v5 &&& 63
theorem bc_f (x : Int32) : f_J6_bitCount_0f7a4 x h = some (bc x, h) := rfl
/-- how many of 8 -/
def pop (v : Nat) : Nat := (v.testBit 0).toNat + (v.testBit 1).toNat + (v.testBit 2).toNat + (v.testBit 3).toNat + (v.testBit 4).toNat + (v.testBit 5).toNat + (v.testBit 6).toNat + (v.testBit 7).toNat
theorem bc_pop : ∀ v, v < 256 → bc (nI v) = nI (pop v) := by decide +kernel
theorem c_bc {v : Nat} (hv : v < 256) : f_J6_bitCount_0f7a4 (nI v) h = some (nI (pop v), h) := by rw [bc_f, bc_pop v hv]
/-- the one of 8 that a set has alone; 8: none -/
def onN (v : Nat) : Nat := fst (fun m => decide (v = 2 ^ m)) 8
theorem on_a : ∀ v, v < 256 → decide (pop v = 1) = decide (onN v < 8) := by decide +kernel
theorem on_b : ∀ v, v < 256 → onN v < 8 → pop (v - 1) = onN v ∧ 1 ≤ v ∧ v = 2 ^ onN v := by decide +kernel
theorem on_c : ∀ m, m < 8 → onN (2 ^ m) = m := by decide +kernel
theorem pop_le : ∀ v, v < 256 → pop v ≤ 8 := by decide +kernel
def onI (v : Nat) : Int32 := if onN v < 8 then nI (onN v) else -1
theorem m_only {v : Nat} (hv : v < 256) : f_X13_only (nI v) h = some (onI v, h) := by
  obtain ⟨a, b, c⟩ := fst_spec (fun m => decide (v = 2 ^ m)) 8
  have pl : ∀ m, m < 8 → (2 : Nat) ^ m < 256 := by decide
  have e1 : ∀ m, m < 8 → jshl (nI 1) (nI m) = nI (2 ^ m) := fun m hm => shl1 (by omega)
  unfold f_X13_only onI
  rw [li_0]
  refine sq2 (onN v) (fun i => nI i) (fun _ => h) (fun self => ?_) (fun self i hi => ?_) (by show fst _ 8 ≤ _; omega) rfl rfl
  · unfold F_X13_only_2
    by_cases h1 : onN v < 8
    · have c1 := of_decide_eq_true (c h1)
      have c2 : v = 2 ^ onN v := c1
      have := pl (onN v) h1
      rw [if_pos h1, li_8, li_1, if_neg (nI_ge h1 (by decide)), e1 _ h1, ← c2, if_pos rfl]
    · have h2 : onN v = 8 := by
        have : onN v ≤ 8 := a
        omega
      rw [if_neg h1, h2, if_pos (by decide)]
  · have i8 : i < 8 := by
      have : onN v ≤ 8 := a
      omega
    have b1 := of_decide_eq_false (b i hi)
    have := pl i i8
    unfold F_X13_only_2
    rw [li_8, li_1, if_neg (nI_ge i8 (by decide)), e1 _ i8, if_neg (fun z => b1 ((nI_eq (by omega) (by omega)).mp z)), nI_add]
def saf (σ : Nat → Nat) (n : Nat) : Bool := allP (fun b => decide (mean σ (TX σ b) = mean σ (TX σ 1))) 2 n
def sfI (σ : Nat → Nat) (n : Nat) : Int32 := if saf σ n = true then onI (mean σ (TX σ 1)) else -1
theorem st_safe (hI : Inv h) : ∃ v h1 h2, f_X12_safe h = some (v, h1) ∧ f_X13_safe h1 = some (v, h2) ∧ Inv h2 := by
  obtain ⟨tp, σ, nm, K, fd, fl, tn, hA, hC, hM⟩ := hI
  have hS := hA.2.1
  have M1 := hM.keep (th_Eq 0)
  have e3 := hS.1.1.2.2.2.1
  have e5 := hS.1.1.2.2.2.2.1
  have t3 : h.1 9 0 = nI (σ 3) := hC.2.1.1.1.2.2.2.1
  have cA := fun b (hb : b < 1000) => c_means (b := b) hA hC hb
  have l1 := mean_lt (σ := σ) (TX σ 1)
  obtain ⟨h2, e2, M2, L2⟩ := m_textMeans (b := 1) M1 hS (by omega)
  obtain ⟨x, g, e4, hx, M3, L3⟩ := loop3f (F := F_X13_safe_16 (fun v12 h11 => some (v12, h11))) (k := fun v12 h11 => some (v12, h11)) 2 (σ 3 + 1) (by omega) (fun i x g => x = sfI σ (i - 2) ∧ MR tp σ nm K fd fl tn g ∧ Lo h2 g) (fun self x g ⟨q1, q2, q3⟩ => by
      have g3 := q2.2.1 3 (by omega)
      unfold F_X13_safe_16
      rw [li_3, clp (by omega), g3, if_pos (nI_lt (by omega) (by omega))]) (fun self i x g h1 hi ⟨q1, q2, q3⟩ => by
      have g3 := q2.2.1 3 (by omega)
      obtain ⟨g2, f2, N2, O2⟩ := m_textMeans (b := i) q2 hS (by omega)
      have li := mean_lt (σ := σ) (TX σ i)
      have es : saf σ (i + 1 - 2) = (saf σ (i - 2) && decide (mean σ (TX σ i) = mean σ (TX σ 1))) := by
        rw [show i + 1 - 2 = i - 2 + 1 by omega]
        show (_ && decide (mean σ (TX σ (2 + (i - 2))) = _)) = _
        rw [show 2 + (i - 2) = i by omega]
        rfl
      subst q1
      by_cases ho : onN (mean σ (TX σ 1)) < 8
      · obtain ⟨-, o1, o2⟩ := on_b _ l1 ho
        by_cases hs : saf σ (i - 2) = true
        · have ex : sfI σ (i - 2) = nI (onN (mean σ (TX σ 1))) := by unfold sfI onI; rw [if_pos hs, if_pos ho]
          refine ⟨sfI σ (i + 1 - 2), g2, ?_, rfl, N2, q3.tr O2⟩
          unfold F_X13_safe_16
          rw [ex, li_3, clp (by omega), g3, if_neg (nI_nlt (by omega) (by omega)), if_neg (nI_pos (by omega)), f2, bndS, li_1, shl1 (by omega), ← o2, nI_add]
          by_cases hm : mean σ (TX σ i) = mean σ (TX σ 1)
          · rw [if_pos (by rw [hm])]
            unfold sfI onI
            rw [es, hs, hm]
            simp [ho]
          · rw [if_neg (fun z => hm ((nI_eq (by omega) (by omega)).mp z))]
            show self (-1) (nI (i + 1)) g2 = _
            congr 1
            unfold sfI
            rw [es, hs]
            simp [hm]
        · have ex : sfI σ (i - 2) = -1 := by unfold sfI; rw [if_neg hs]
          have ey : sfI σ (i + 1 - 2) = -1 := by unfold sfI; rw [es, if_neg (by simp [hs])]
          refine ⟨sfI σ (i + 1 - 2), g, ?_, rfl, q2, q3⟩
          unfold F_X13_safe_16
          rw [ex, ey, li_3, clp (by omega), g3, if_neg (nI_nlt (by omega) (by omega)), if_pos (by decide), nI_1]
      · have ex : ∀ j, sfI σ j = -1 := fun j => by unfold sfI onI; rw [if_neg ho, ite_self]
        refine ⟨sfI σ (i + 1 - 2), g, ?_, rfl, q2, q3⟩
        unfold F_X13_safe_16
        rw [ex, ex, li_3, clp (by omega), g3, if_neg (nI_nlt (by omega) (by omega)), if_pos (by decide), nI_1]) (onI (mean σ (TX σ 1))) h2 ⟨by unfold sfI; rw [show saf σ (2 - 2) = true from rfl, if_pos rfl], M2, Lo.rf⟩ (by omega)
  refine ⟨sfI σ (σ 3 + 1 - 2), h, g, ?_, ?_, tp, σ, nm, K, fd, fl, tn, hA, hC.lo hA ((th_Lo 0).tr (L2.tr L3)), M3⟩
  · unfold f_X12_safe
    have k1 := cA 1 (by omega)
    rw [← li_1] at k1
    rw [k1, bndS, li_2]
    have al := allLoop (h := h) (F := F_X12_safe_25 (nI (mean σ (TX σ 1))) (fun h7 => some ((-1), h7)) (fun h8 => bnd (f_J6_bitCount_0f7a4 (nI (mean σ (TX σ 1))) h8) fun v10 h9 => (if v10 = 1 then bnd (f_J6_bitCount_0f7a4 (nI (mean σ (TX σ 1)) - 1) h9) fun v13 h12 => some (v13, h12) else some ((-1), h9)))) (k0 := some (-1, h)) (k1 := some (onI (mean σ (TX σ 1)), h)) (fun b => decide (mean σ (TX σ b) = mean σ (TX σ 1))) 2 (σ 3 + 1 - 2) (fun self => by
        unfold F_X12_safe_25
        rw [t3, if_pos (nI_lt (by omega) (by omega))]
        show bnd (f_J6_bitCount_0f7a4 (nI (mean σ (TX σ 1))) h) _ = _
        rw [c_bc l1, bndS]
        have oa := on_a _ l1
        by_cases ho : onN (mean σ (TX σ 1)) < 8
        · obtain ⟨o0, o1, o2⟩ := on_b _ l1 ho
          rw [decide_eq_true ho, decide_eq_true_eq] at oa
          rw [oa, if_pos (show nI 1 = 1 from rfl), li_1, subN o1, c_bc (by omega), bndS, o0]
          unfold onI
          rw [if_pos ho]
        · rw [decide_eq_false ho, decide_eq_false_iff_not] at oa
          have := pop_le _ l1
          rw [if_neg (show ¬ nI (pop (mean σ (TX σ 1))) = 1 from fun z => oa ((nI_eq (b := 1) (by omega) (by omega)).mp z))]
          unfold onI
          rw [if_neg ho]) (fun self i hi => by
        have li := mean_lt (σ := σ) (TX σ (2 + i))
        unfold F_X12_safe_25
        rw [t3, if_neg (nI_nlt (by omega) (by omega)), cA _ (by omega), bndS, nI_1]
        by_cases hm : mean σ (TX σ (2 + i)) = mean σ (TX σ 1)
        · rw [hm, if_pos rfl]
          simp
        · rw [if_neg (fun z => hm ((nI_eq (by omega) (by omega)).mp z)), if_neg (by simp [hm])]) (by omega)
    rw [al]
    unfold sfI saf
    by_cases hs : allP (fun b => decide (mean σ (TX σ b) = mean σ (TX σ 1))) 2 (σ 3 + 1 - 2) = true
    · rw [if_pos hs, if_pos hs]
    · rw [if_neg hs, if_neg hs]
  · unfold f_X13_safe
    rw [lt_s0, li_1]
    rw [e2, bndS, m_only l1, bndS, li_2, e4, hx]
/-! BOOK -/
def anyP (p : Nat → Bool) : Nat → Bool
  | 0 => false
  | n + 1 => anyP p n || p n
theorem anyP_t {p : Nat → Bool} : ∀ {n : Nat}, anyP p n = true ↔ ∃ i, i < n ∧ p i = true
  | 0 => ⟨fun z => (by cases z), fun ⟨i, h1, _⟩ => absurd h1 (Nat.not_lt_zero _)⟩
  | n + 1 => by
    show (anyP p n || p n) = true ↔ _
    rw [Bool.or_eq_true, anyP_t]
    constructor
    · rintro (⟨i, h1, h2⟩ | h1)
      · exact ⟨i, by omega, h2⟩
      · exact ⟨n, by omega, h1⟩
    · intro ⟨i, h1, h2⟩
      by_cases h3 : i = n
      · rw [h3] at h2; exact Or.inr h2
      · exact Or.inl ⟨i, by omega, h2⟩
theorem bts_bit (p : Nat → Bool) (b : Nat) : ∀ n, (bts p n).testBit b = (decide (b < n) && p b)
  | 0 => by
    show Nat.testBit 0 b = _
    simp
  | n + 1 => by
    rw [bts_s, Nat.testBit_or, bts_bit p b n]
    by_cases h1 : b = n
    · subst h1
      cases hp : p b
      · simp
      · simp [Nat.testBit_two_pow_self]
    · have h2 : (if p n = true then 2 ^ n else 0).testBit b = false := by
        cases hp : p n
        · simp
        · simp only [↓reduceIte]
          rw [Nat.testBit_two_pow]
          simp
          omega
      rw [h2, Bool.or_false]
      congr 1
      simp
      omega
theorem bts_any (p : Nat → Bool) (n : Nat) : decide (bts p n = 0) = !anyP p n := by
  by_cases h1 : anyP p n = true
  · rw [h1]
    obtain ⟨i, h2, h3⟩ := anyP_t.mp h1
    have h4 := bts_bit p i n
    rw [h3, decide_eq_true h2] at h4
    rw [Bool.not_true, decide_eq_false_iff_not]
    intro z
    rw [z] at h4
    simp at h4
  · rw [Bool.eq_false_iff.mpr h1, Bool.not_false, decide_eq_true_eq]
    apply Nat.eq_of_testBit_eq
    intro i
    rw [bts_bit, Nat.zero_testBit]
    by_cases h2 : i < n
    · cases hp : p i
      · simp
      · exact absurd (anyP_t.mpr ⟨i, h2, hp⟩) h1
    · simp [h2]
theorem bts_lt (p : Nat → Bool) {n : Nat} : bts p n < 2 ^ n := ors_lt n (fun i hi => by
  show (if p i = true then 2 ^ i else 0) < 2 ^ n
  cases hp : p i
  · exact Nat.two_pow_pos n
  · exact Nat.pow_lt_pow_right (by decide) hi)
/-- what is left of clause c -/
def CL (σ : Nat → Nat) (c b : Nat) : List Nat := lf (stk (σ 3) (σ 4) b) (fun i => σ (464 + 25 * c + i)) (σ (463 + 25 * c))
def bkq (σ : Nat → Nat) (b c o : Nat) : Bool := (decide (b = 0) || decide (o = b)) && trn σ (CL σ c) o
def bkP (σ : Nat → Nat) (b c : Nat) : Bool := anyP (bkq σ b c) (σ 3 + 1)
theorem stk_0 (e r p : Nat) : stk e r 0 p = false := by simp [stk]
theorem lf_all {st : Nat → Bool} (f : Nat → Nat) (hst : ∀ p, st p = false) : ∀ n, (lf st f n).length = n ∧ ∀ i, i < n → (lf st f n).getD i 0 = f i
  | 0 => ⟨rfl, fun i hi => absurd hi (Nat.not_lt_zero _)⟩
  | n + 1 => by
    obtain ⟨a, b⟩ := lf_all f hst n
    have e : lf st f (n + 1) = lf st f n ++ [f n] := by
      show lf st f n ++ (if st (n + 1) then [] else [f n]) = _
      rw [hst]
      rfl
    rw [e]
    refine ⟨by rw [List.length_append, a]; rfl, fun i hi => ?_⟩
    by_cases h1 : i = n
    · subst h1
      simp [List.getD_eq_getElem?_getD, a]
    · rw [← b i (by omega)]
      simp [List.getD_eq_getElem?_getD, List.getElem?_append_left (show i < (lf st f n).length by omega)]
theorem st_book (x : Int32) (hI : Inv h) : ∃ v h1 h2, f_X12_book x h = some (v, h1) ∧ f_X13_book x h1 = some (v, h2) ∧ Inv h2 := by
  obtain ⟨tp, σ, nm, K, fd, fl, tn, hA, hC, hM⟩ := hI
  have hS := hA.2.1
  have H := hS.1
  have e3 := H.1.2.2.2.1
  have e5 := H.1.2.2.2.2.1
  have e4 := H.1.2.2.2.2.2.1
  have e4' := H.1.2.2.2.2.2.2
  have c10 := hS.2.2.1
  have t3 : h.1 9 0 = nI (σ 3) := hC.2.1.1.1.2.2.2.1
  have t6 : h.1 6 3 = nI (σ 462) := hC.2.1.2.2.1
  have M1 := hM.keep (th_Eq 0)
  have cm : ∀ c, c < σ 462 → ∀ i, i < σ (463 + 25 * c) → σ (464 + 25 * c + i) < σ 2 := fun c hc i hi => by
    have := (hS.2.2.2 c hc).2 i hi
    rw [show 463 + 25 * c + 1 + i = 464 + 25 * c + i by omega] at this
    exact this
  rcases c_begAll x t3 (by omega) with ⟨b, hb, rfl, c1⟩ | ⟨c1, hb⟩
  · obtain ⟨h2, f2, z1, z2, z3, z4, z5⟩ := m_settle M1 H
    have M2 := M1.settled z1 z2 z3 z4 z5
    obtain ⟨x, g, f3, hx, M3, S3⟩ := loop3f (F := F_X13_book_23 (nI b) (fun v30 h29 => some (v30, h29))) (k := fun v30 h29 => some (v30, h29)) 0 (σ 462) (by omega) (fun i x g => x = nI (bts (bkP σ b) i) ∧ (MR tp σ nm K fd fl tn g ∧ MS σ g) ∧ Lo h2 g) (fun self x g ⟨_, ⟨q2, _⟩, _⟩ => by
        have g3 := q2.2.1 462 (by omega)
        unfold F_X13_book_23
        rw [li_462, clp (by omega), g3, if_pos (nI_le (Nat.le_refl _) (by omega))]) (fun self c x g _ hc ⟨q1, ⟨q2, q4⟩, q3⟩ => by
        have ms := q2.2.1
        have n24 := (hS.2.2.2 c hc).1
        have gn := ms (463 + 25 * c) (by omega)
        have v7 : (463 : Int32) + 25 * nI c = nI (463 + 25 * c) := by rw [li_463, li_25, pk_mul, nI_add]
        obtain ⟨k1, ek1⟩ : ∃ k1 : Hp → Option (Int32 × Hp), k1 = fun h13 => if inb (nI (463 + 25 * c)) 713 = true then bnd (f_X13_meant 161 (h13.1 157 ((nI (463 + 25 * c)).toNatClampNeg)) h13) fun v16 h15 => itr3 (F_X13_book_105 (nI b) (nI c) (nI (463 + 25 * c)) v16 (fun v28 h27 => self v28 (nI c + 1) h27)) N0 x 1 h15 else none := ⟨_, rfl⟩
        obtain ⟨g2, f4, w1, w2⟩ := loop2f (F := F_X13_book_48 (nI b) x (nI c) (nI (463 + 25 * c)) k1) (k := k1) 0 (σ (463 + 25 * c)) (by omega) (fun i q => Same [161] g q ∧ ∀ k, k < i → q.1 161 k = nI (σ (464 + 25 * c + k))) (fun self q ⟨r1, _⟩ => by
            have gn2 : q.1 157 (463 + 25 * c) = nI (σ (463 + 25 * c)) := by rw [(r1 157 (by decide)).1]; exact gn
            unfold F_X13_book_48
            rw [if_pos (inb_nI (by omega) (by decide)), nI_clamp (by omega), gn2, if_pos (nI_le (Nat.le_refl _) (by omega))]) (fun self i q _ hi ⟨r1, r2⟩ => by
            have gn2 : q.1 157 (463 + 25 * c) = nI (σ (463 + 25 * c)) := by rw [(r1 157 (by decide)).1]; exact gn
            have gn3 : q.1 157 (463 + 25 * c + 1 + i) = nI (σ (464 + 25 * c + i)) := by rw [(r1 157 (by decide)).1, ms _ (by omega)]; congr 2; omega
            refine ⟨sI q 161 i (nI (σ (464 + 25 * c + i))), ?_, r1.tr (Same.ofI (by decide)), fun k hk => ?_⟩
            · unfold F_X13_book_48
              simp (disch := omega) only [li_0, li_1, li_2, li_3, li_4, li_5, li_6, li_7, li_8, li_9, li_10, li_12, li_13, li_14, li_15, li_16, li_20, li_24, li_25, li_31, li_32, li_40, li_48, li_54, li_56, li_64, li_72, li_97, li_99, li_100, li_112, li_122, li_144, li_145, li_155, li_157, li_200, li_216, li_255, li_256, li_432, li_437, li_438, li_462, li_463, li_713, li_900, li_940, lL_0, lL_1, lL_255, lL_1099511627776, neg_1, ltT, ltF, leT, leF, eqT, eqF, ltMT, ltMF, leMT, leMF, eqMF, eqMF', addM, inbT, clp, nI_add, subN, pk_mul, nzT, remN, shl1, bitN, bit0, bit1, lcE, lcLE, lcLT, LleT, LleF, LltT, LltF, LeqT, LeqF, ↓bndS, ↓bnvS, ↓lt_s1, bndS, bnvS, eq_self, ↓reduceIte, gn2, gn3]
            · by_cases hk2 : k = i
              · subst hk2
                rw [sI_s]
              · rw [sI_nk1 hk2]
                exact r2 k (by omega)) g ⟨Same.rf, fun k hk => by omega⟩ (by omega)
        have N2 := q2.scr w1 (by decide)
        have MS2 : MS σ g2 := by
          obtain ⟨y1, y2, y3⟩ := q4
          refine ⟨by rw [(w1 155 (by decide)).1]; exact y1, by rw [(w1 155 (by decide)).1]; exact y2, ?_⟩
          unfold Cache
          rw [(w1 166 (by decide)).1, (w1 165 (by decide)).1, (w1 164 (by decide)).1]
          exact y3
        have L2' : Lo h2 g2 := q3.tr (w1.lo (by decide))
        obtain ⟨la, lb⟩ := lf_all (st := stk (σ 3) (σ 4) 0) (fun i => σ (464 + 25 * c + i)) (stk_0 (σ 3) (σ 4)) (σ (463 + 25 * c))
        have me := m_meant (a := 161) (l := CL σ c 0) (h := g2) (fun k hk => N2.2.1 k (by omega)) MS2.2.2 H (lf_mem _ _ _ (cm c hc)) (show (CL σ c 0).length ≤ 24 by rw [show (CL σ c 0).length = σ (463 + 25 * c) from la]; exact n24) (by decide) (fun i hi => by
          rw [show (CL σ c 0).length = σ (463 + 25 * c) from la] at hi
          rw [show (CL σ c 0).getD i 0 = σ (464 + 25 * c + i) from lb i hi]
          exact w2 i hi)
        rw [show (CL σ c 0).length = σ (463 + 25 * c) from la] at me
        have l0 := mean_lt (σ := σ) (CL σ c 0)
        obtain ⟨x', g3, f5, hx', ⟨M5, MS5⟩, L5, w5⟩ := loop3f (F := F_X13_book_105 (nI b) (nI c) (nI (463 + 25 * c)) (nI (mean σ (CL σ c 0))) (fun v28 h27 => self v28 (nI c + 1) h27)) (k := fun v28 h27 => self v28 (nI c + 1) h27) 1 (σ 3 + 1) (by omega) (fun o y q => y = nI (bts (bkP σ b) c ||| (if anyP (bkq σ b c) o = true then 2 ^ c else 0)) ∧ (MR tp σ nm K fd fl tn q ∧ MS σ q) ∧ Lo h2 q ∧ ∀ k, k < σ (463 + 25 * c) → q.1 161 k = nI (σ (464 + 25 * c + k))) (fun self y q ⟨_, ⟨r2, _⟩, _⟩ => by
            have g3 := r2.2.1 3 (by omega)
            unfold F_X13_book_105
            rw [li_3, clp (by omega), g3, if_pos (nI_lt (by omega) (by omega))]) (fun self o y q h1 ho ⟨r1, ⟨r2, r4⟩, r3, r5⟩ => by
            have g3 := r2.2.1 3 (by omega)
            have gn2 := r2.2.1 (463 + 25 * c) (by omega)
            have ea : anyP (bkq σ b c) (o + 1) = (anyP (bkq σ b c) o || bkq σ b c o) := rfl
            by_cases hbo : b = 0 ∨ o = b
            · obtain ⟨q2, f6, v1, v2, v3, v4, v5⟩ := m_leave (a := 161) (h := q) (b := o) (n := σ (463 + 25 * c)) (f := fun i => σ (464 + 25 * c + i)) rfl n24 r5 r4.1 r4.2.1 (by omega) (by omega) (by omega) (by omega)
              have E2 : EqM q q2 := EqM.ofSame v3 (by decide) (fun j hj => v5 j (fun z => by subst z; revert hj; decide)) (by rw [v4])
              have N3 := r2.keep E2
              have MS3 : MS σ q2 := by
                obtain ⟨y1, y2, y3⟩ := r4
                refine ⟨by rw [v5 25 (by decide)]; exact y1, by rw [v5 26 (by decide)]; exact y2, ?_⟩
                unfold Cache
                rw [(v3 166 (by decide)).1, (v3 165 (by decide)).1, (v3 164 (by decide)).1]
                exact y3
              have me2 := m_meant (a := 162) (l := CL σ c o) (h := q2) (fun k hk => N3.2.1 k (by omega)) MS3.2.2 H (lf_mem _ _ _ (cm c hc)) (Nat.le_trans (lf_len _ _ _) n24) (by decide) v2
              have l1 := mean_lt (σ := σ) (CL σ c o)
              have v1' : q2.1 155 27 = nI (CL σ c o).length := v1
              have bo : (decide (b = 0) || decide (o = b)) = true := by simp [hbo]
              have tr : trn σ (CL σ c) o = decide (mean σ (CL σ c o) ≠ mean σ (CL σ c 0)) := by
                unfold trn
                rw [decide_eq_true (by omega : 0 < o), Bool.true_and]
              have kb : B_X13_book_129 (nI b) (nI c) (nI (463 + 25 * c)) (nI (mean σ (CL σ c 0))) (fun v28 h27 => self v28 (nI c + 1) h27) = B_X13_book_129 (nI b) (nI c) (nI (463 + 25 * c)) (nI (mean σ (CL σ c 0))) (fun v28 h27 => self v28 (nI c + 1) h27) := rfl
              refine ⟨nI (bts (bkP σ b) c ||| (if anyP (bkq σ b c) (o + 1) = true then 2 ^ c else 0)), q2, ?_, rfl, ⟨N3, MS3⟩, r3.tr (v3.lo (by decide)), fun k hk => by rw [(v3 161 (by decide)).1]; exact r5 k hk⟩
              have bb : ∀ kk, B_X13_book_129 (nI b) (nI c) (nI (463 + 25 * c)) (nI (mean σ (CL σ c 0))) kk self y (nI o) q = self (nI (bts (bkP σ b) c ||| (if anyP (bkq σ b c) (o + 1) = true then 2 ^ c else 0))) (nI (o + 1)) q2 := fun kk => by
                unfold B_X13_book_129
                rw [if_pos (inb_nI (by omega) (by decide)), nI_clamp (by omega), gn2, f6, bnvS, v1', me2, bndS, r1, ea]
                have eq : bkq σ b c o = decide (mean σ (CL σ c o) ≠ mean σ (CL σ c 0)) := by unfold bkq; rw [bo, Bool.true_and, tr]
                rw [eq]
                by_cases hm : mean σ (CL σ c o) = mean σ (CL σ c 0)
                · rw [if_pos (by rw [hm]), lt_s0, li_0, fa_or, Nat.or_zero, nI_1]
                  simp [hm]
                · rw [if_neg (fun z => hm ((nI_eq (by omega) (by omega)).mp z)), lt_s0, li_1, shl1 (by omega), fa_or, nI_add]
                  simp only [hm, ne_eq, not_false_eq_true, decide_true, Bool.or_true, ↓reduceIte]
                  congr 2
                  cases anyP (bkq σ b c) o
                  · simp
                  · simp only [↓reduceIte, Nat.or_assoc, Nat.or_self]
              unfold F_X13_book_105
              rw [li_3, clp (by omega), g3, if_neg (nI_nlt (by omega) (by omega))]
              by_cases hb0 : b = 0
              · rw [if_pos (by rw [hb0]; decide)]
                exact bb _
              · rw [if_neg (by rw [li_0]; exact nI_ge (by omega) (by omega)), if_pos (by rw [hbo.resolve_left hb0])]
                exact bb _
            · have bo : bkq σ b c o = false := by
                unfold bkq
                rw [show (decide (b = 0) || decide (o = b)) = false by simp; omega, Bool.false_and]
              refine ⟨y, q, ?_, by rw [r1, ea, bo, Bool.or_false], ⟨r2, r4⟩, r3, r5⟩
              unfold F_X13_book_105
              rw [li_3, clp (by omega), g3, if_neg (nI_nlt (by omega) (by omega)), if_neg (by rw [li_0]; exact nI_ge (by omega) (by omega)), if_neg (fun z => by have := (nI_eq (by omega) (by omega)).mp z; omega), nI_1]) x g2 ⟨by
            rw [q1, show anyP (bkq σ b c) 1 = bkq σ b c 0 from by simp [anyP], show bkq σ b c 0 = false from by unfold bkq; rw [trn_0, Bool.and_false]]
            simp, ⟨N2, MS2⟩, L2', w2⟩ (by omega)
        refine ⟨nI (bts (bkP σ b) (c + 1)), g3, ?_, rfl, ⟨M5, MS5⟩, L5⟩
        unfold F_X13_book_23
        rw [li_462, clp (by omega), ms 462 (by omega), if_neg (nI_ge hc (by omega)), lt_s0, v7, li_0, ← ek1, f4, ek1]
        show (if inb (nI (463 + 25 * c)) 713 = true then _ else _) = _
        rw [if_pos (inb_nI (by omega) (by decide)), nI_clamp (by omega), N2.2.1 _ (by omega), me, bndS, li_1]
        rw [li_1] at f5
        rw [f5, hx', bts_s, nI_add]
        rfl) (nI 0) h2 ⟨rfl, ⟨M2, z5⟩, Lo.rf⟩ (by omega)
    refine ⟨nI (bts (bkP σ b) (σ 462)), h, g, ?_, ?_, tp, σ, nm, K, fd, fl, tn, hA, hC.lo hA ((th_Lo 0).tr ((z1.lo (by decide)).tr S3)), M3.1⟩
    · unfold f_X12_book
      rw [c1, bndS, if_neg (by decide), li_0]
      refine sq3 (σ 462) (fun i => nI (bts (bkP σ b) i)) (fun i => nI i) (fun _ => h) (fun self => ?_) (fun self c hc => ?_) (by omega) rfl rfl rfl
      · unfold F_X12_book_14
        simp (disch := omega) only [li_0, li_1, li_2, li_3, li_4, li_5, li_6, li_7, li_8, li_9, li_10, li_12, li_13, li_14, li_15, li_16, li_20, li_24, li_25, li_31, li_32, li_40, li_48, li_54, li_56, li_64, li_72, li_97, li_99, li_100, li_112, li_122, li_144, li_145, li_155, li_157, li_200, li_216, li_255, li_256, li_432, li_437, li_438, li_462, li_463, li_713, li_900, li_940, lL_0, lL_1, lL_255, lL_1099511627776, neg_1, ltT, ltF, leT, leF, eqT, eqF, ltMT, ltMF, leMT, leMF, eqMF, eqMF', addM, inbT, clp, nI_add, subN, pk_mul, nzT, remN, shl1, bitN, bit0, bit1, lcE, lcLE, lcLT, LleT, LleF, LltT, LltF, LeqT, LeqF, ↓bndS, ↓bnvS, ↓lt_s1, bndS, bnvS, eq_self, ↓reduceIte, t6]
      · have n24 := (hS.2.2.2 c hc).1
        have al : aln (20 + 1 + 2 * c + 1) = 24 := aln_cl ⟨c, by omega⟩
        have cr := hC.2.1.2.2.2 c hc
        rw [show 6 + 15 + 2 * c = 20 + 1 + 2 * c by omega, show 6 + 16 + 2 * c = 20 + 1 + 2 * c + 1 by omega] at cr
        have cT := c_turnsOf (t := 7) (r := 20 + 1 + 2 * c) (n := σ (463 + 25 * c)) (f := fun i => σ (464 + 25 * c + i)) hC.2.1.1 H cr.1 cr.2 (cm c hc) (by rw [al]; exact n24) (by rw [al]; decide)
        have bl : bts (trn σ (CL σ c)) (σ 3 + 1) < 64 := Nat.lt_of_lt_of_le (bts_lt _) (Nat.pow_le_pow_right (by decide) (show σ 3 + 1 ≤ 6 by omega))
        have cT' : f_X3_turnsOf 7 (20 + 1 + 2 * c) h = some (nI (bts (trn σ (CL σ c)) (σ 3 + 1)), h) := cT
        unfold F_X12_book_14
        rw [bts_s, t6, if_neg (nI_ge hc (by omega)), if_pos (inb_nI (by omega) (by decide)), nI_clamp (by omega), cT', bndS]
        have yes : ∀ kk, B_X12_book_71 (nI b) kk self (nI (bts (bkP σ b) c)) (nI c) h = self (nI (bts (bkP σ b) c ||| 2 ^ c)) (nI (c + 1)) h := fun kk => by
          unfold B_X12_book_71
          rw [lt_s0, li_1, shl1 (by omega), fa_or, nI_add]
        by_cases hb0 : b = 0
        · have e1 := bts_any (trn σ (CL σ c)) (σ 3 + 1)
          have e2 : bkP σ b c = anyP (trn σ (CL σ c)) (σ 3 + 1) := by
            unfold bkP
            congr 1
            funext o
            unfold bkq
            rw [decide_eq_true hb0, Bool.true_or, Bool.true_and]
          rw [if_pos (by rw [hb0]; decide), e2]
          cases hh : anyP (trn σ (CL σ c)) (σ 3 + 1)
          · rw [hh, Bool.not_false, decide_eq_true_eq] at e1
            rw [e1, if_pos (show nI 0 = 0 from rfl), nI_1]
            simp
          · rw [hh, Bool.not_true, decide_eq_false_iff_not] at e1
            rw [if_neg (show ¬ nI (bts (trn σ (CL σ c)) (σ 3 + 1)) = 0 from fun z => e1 ((nI_eq (b := 0) (by omega) (by omega)).mp z)), yes]
            simp
        · have e1 := bts_bit (trn σ (CL σ c)) b (σ 3 + 1)
          rw [decide_eq_true (by omega : b < σ 3 + 1), Bool.true_and] at e1
          have e2 : bkP σ b c = trn σ (CL σ c) b := by
            rw [Bool.eq_iff_iff]
            unfold bkP
            rw [anyP_t]
            unfold bkq
            constructor
            · intro ⟨i, i1, i2⟩
              rw [Bool.and_eq_true, Bool.or_eq_true, decide_eq_true_eq, decide_eq_true_eq] at i2
              rw [← i2.1.resolve_left hb0]
              exact i2.2
            · intro z
              exact ⟨b, by omega, by simp [z]⟩
          rw [if_neg (by rw [li_0]; exact fun z => hb0 ((nI_eq (by omega) (by omega)).mp z)), li_1, bitN (by omega) (by omega), e1, e2]
          cases hh : trn σ (CL σ c) b
          · rw [if_pos (by decide), nI_add]
            simp
          · rw [if_neg (by decide), yes]
            simp
    · unfold f_X13_book
      rw [lt_s0, m_begT (M1.2.1 3 (by omega)) (by omega) hb, bndS, if_neg (by decide), f2, bnvS, li_0, f3, hx]
  · refine ⟨-1, h, sI h 155 0 0, ?_, ?_, tp, σ, nm, K, fd, fl, tn, hA, hC.lo hA (th_Lo 0), M1⟩
    · unfold f_X12_book
      rw [c1, bndS, if_pos (by decide)]
    · unfold f_X13_book
      rw [lt_s0, m_begF (M1.2.1 3 (by omega)) (by omega) hb, bndS, if_pos (by decide)]
end T3
