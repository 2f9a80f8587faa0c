section STEP
variable {σ : Nat → Nat} {nm : Nat → List Nat} {h : Hp}
def mst (X : Nat) : Int64 := if X = 1099511627776 then -lN 1 else lN X
def stb (σ : Nat → Nat) (X w k : Nat) : Nat := if σ (72 + 5 * w + k) = 1 then img σ (5 * w + k) (ain σ X k) else 0
/-- a SAYING more -/
def stp (σ : Nat → Nat) (X w : Nat) : Nat := pk8 (stb σ X w) 5
theorem img4_lt {f : Nat → Nat} {i s : Nat} (h0 : f i < 8) (h1 : f (i + 1) < 8) (h2 : f (i + 2) < 8) (h3 : f (i + 3) < 8) : img4 f i s < 2 ^ 8 := by
  have k : ∀ (c : Bool) (x : Nat), x < 8 → (if c = true then 2 ^ x else 0) < 2 ^ 8 := by
    intro c x hx
    cases c
    · exact (by decide : (0 : Nat) < 2 ^ 8)
    · exact Nat.pow_lt_pow_right (by decide) hx
  unfold img4
  exact or_lt (or_lt (or_lt (k _ _ h0) (k _ _ h1)) (k _ _ h2)) (k _ _ h3)
theorem img_lt (H : TgOk σ nm) {p : Nat} (hp : p < 40) (s : Nat) : img σ p s < 256 := by
  have b := H.2.2.2.2.2.2.1
  unfold img
  exact or_lt (n := 8) (img4_lt (b _ (by omega)) (b _ (by omega)) (b _ (by omega)) (b _ (by omega))) (img4_lt (b _ (by omega)) (b _ (by omega)) (b _ (by omega)) (b _ (by omega)))
theorem img_0 (p : Nat) : img σ p 0 = 0 := by
  unfold img img4
  simp
theorem stb_lt (H : TgOk σ nm) {X w : Nat} (hw : w < 8) : ∀ k, k < 5 → stb σ X w k < 256 := by
  intro k hk
  unfold stb
  by_cases h1 : σ (72 + 5 * w + k) = 1
  · rw [if_pos h1]; exact img_lt H (by omega) _
  · rw [if_neg h1]; decide
theorem stp_lt (H : TgOk σ nm) {X w : Nat} (hw : w < 8) : stp σ X w < 1099511627776 := pk8_lt 5 (stb_lt H hw)
theorem ain_0 (k : Nat) : ain σ 0 k = 0 := by
  unfold ain byo
  simp [ors]
theorem stp_0 (w : Nat) : stp σ 0 w = 0 := by
  have e : ∀ k, stb σ 0 w k = 0 := fun k => by
    unfold stb
    rw [ain_0, img_0]
    simp
  unfold stp
  exact (pk8_zero 0 5 (by omega) (fun i _ _ => e i)).trans rfl
theorem stp_srt (H : TgOk σ nm) {X w : Nat} (hw : w < 8) : pk8 (stb σ X w) (σ 0) = stp σ X w := by
  refine (pk8_zero (σ 0) 5 H.1.1 (fun i h1 h2 => ?_)).symm
  unfold stb
  rw [(H.2.2.1 i h1 h2).2.2.2 w hw]
  rfl
theorem rds_bit (H : TgOk σ nm) {w k : Nat} (hw : w < 8) (hk : k < 5) : (rds σ w).testBit k = decide (σ (72 + 5 * w + k) = 1) := by
  have b := H.2.2.2.2.1
  have b0 := b (72 + 5 * w) (by omega) (by omega)
  have b1 := b (73 + 5 * w) (by omega) (by omega)
  have b2 := b (74 + 5 * w) (by omega) (by omega)
  have b3 := b (75 + 5 * w) (by omega) (by omega)
  have b4 := b (76 + 5 * w) (by omega) (by omega)
  unfold rds
  have e1 : 72 + 5 * w + 1 = 73 + 5 * w := by omega
  have e2 : 72 + 5 * w + 2 = 74 + 5 * w := by omega
  have e3 : 72 + 5 * w + 3 = 75 + 5 * w := by omega
  have e4 : 72 + 5 * w + 4 = 76 + 5 * w := by omega
  rcases (show k = 0 ∨ k = 1 ∨ k = 2 ∨ k = 3 ∨ k = 4 by omega) with rfl | rfl | rfl | rfl | rfl
  all_goals
    simp only [e1, e2, e3, e4, Nat.add_zero]
    generalize σ (72 + 5 * w) = a0 at *
    generalize σ (73 + 5 * w) = a1 at *
    generalize σ (74 + 5 * w) = a2 at *
    generalize σ (75 + 5 * w) = a3 at *
    generalize σ (76 + 5 * w) = a4 at *
    rcases (show a0 = 0 ∨ a0 = 1 by omega) with rfl | rfl <;> rcases (show a1 = 0 ∨ a1 = 1 by omega) with rfl | rfl <;> rcases (show a2 = 0 ∨ a2 = 1 by omega) with rfl | rfl <;> rcases (show a3 = 0 ∨ a3 = 1 by omega) with rfl | rfl <;> rcases (show a4 = 0 ∨ a4 = 1 by omega) with rfl | rfl <;> rfl
theorem rds_lt (H : TgOk σ nm) {w : Nat} (hw : w < 8) : rds σ w < 32 := by
  have b := H.2.2.2.2.1
  have b0 := b (72 + 5 * w) (by omega) (by omega)
  have b1 := b (73 + 5 * w) (by omega) (by omega)
  have b2 := b (74 + 5 * w) (by omega) (by omega)
  have b3 := b (75 + 5 * w) (by omega) (by omega)
  have b4 := b (76 + 5 * w) (by omega) (by omega)
  unfold rds
  omega
theorem mos_img {p a : Nat} (hr : σ (72 + p) = 1) (ha : a < 256) : mos σ (p * 32 + a % 16) ||| mos σ (p * 32 + 16 + a / 2 ^ 4) = img σ p a := by
  have m : ∀ j, j < 8 → mk σ (8 * p + j) = σ (112 + (8 * p + j)) := fun j hj => by
    unfold mk
    rw [show (8 * p + j) / 8 = p by omega, if_pos hr]
  unfold mos img
  rw [show (p * 32 + a % 16) / 32 * 8 + (p * 32 + a % 16) % 32 / 16 * 4 = 8 * p by omega, show (p * 32 + a % 16) % 16 = a % 16 by omega, show (2 : Nat) ^ 4 = 16 from rfl, show (p * 32 + 16 + a / 16) / 32 * 8 + (p * 32 + 16 + a / 16) % 32 / 16 * 4 = 8 * p + 4 by omega, show (p * 32 + 16 + a / 16) % 16 = a / 16 by omega]
  unfold img4
  have m0 := m 0 (by omega)
  simp only [Nat.add_zero] at m0
  rw [m0, m 1 (by omega), m 2 (by omega), m 3 (by omega), m 4 (by omega), show 8 * p + 4 + 1 = 8 * p + 5 by omega, m 5 (by omega), show 8 * p + 4 + 2 = 8 * p + 6 by omega, m 6 (by omega), show 8 * p + 4 + 3 = 8 * p + 7 by omega, m 7 (by omega)]
theorem or_add {a b n : Nat} (ha : a < 2 ^ n) : a ||| b * 2 ^ n = a + b * 2 ^ n := by
  rw [Nat.or_comm, Nat.mul_comm, ← Nat.two_pow_add_eq_or_of_lt ha, Nat.add_comm]
theorem pow8_le {i : Nat} (hi : i ≤ 5) : 2 ^ (8 * i) ≤ 1099511627776 := Nat.le_trans (Nat.pow_le_pow_right (by decide) (show 8 * i ≤ 40 by omega)) (by decide)
theorem pk8_or {f : Nat → Nat} {i : Nat} (hi : i < 5) (hf : ∀ k, k < 5 → f k < 256) : lN (pk8 f i) ||| lN (f i * 2 ^ (8 * i)) = lN (pk8 f (i + 1)) := by
  have h1 := pk8_lt i (fun k hk => hf k (by omega))
  have h2 := pk8_lt (i + 1) (fun k hk => hf k (by omega))
  have h3 := pow8_le (i := i) (by omega)
  have h4 := pow8_le (i := i + 1) (by omega)
  have h5 : pk8 f (i + 1) = pk8 f i + f i * 2 ^ (8 * i) := rfl
  rw [wb_or (by omega) (by omega), or_add h1]
  rfl
theorem ahd_lt (H : TgOk σ nm) {k : Nat} (hk : k < 5) : ahd σ k < 281474976710656 := by
  rw [ahd_pk]
  exact pk8_lt 6 (fun i hi => by
    have := H.fl (o := i) hi hk
    show 255 * fol σ i k < 256
    omega)
theorem ens_lt (H : TgOk σ nm) : ens σ < 1099511627776 := by
  rw [ens_pk]
  exact pk8_lt 5 (fun i hi => by
    have := H.2.1 (10 + i) (by omega) (by omega)
    show 255 * σ (10 + i) < 256
    omega)
theorem c_meant {t X : Nat} (T : TgRep h t σ nm) (H : TgOk σ nm) (hX : X ≤ 1099511627776) : f_X10_meant t (lN X) h = some (nI (mnt σ X), h) := by
  have := ens_lt H
  unfold f_X10_meant
  rw [T.2.2.2.1.2, wb_and (by omega) (by omega), c_anyOf (Nat.lt_of_le_of_lt Nat.and_le_left (by omega)), bndS, any_mnt H]
theorem c_stepped {t X w : Nat} (T : TgRep h t σ nm) (H : TgOk σ nm) (hX : X ≤ 1099511627776) (hw : w < σ 2) : f_X10_stepped t (lN X) (nI w) h = some (lN (stp σ X w), h) := by
  have w8 : w < 8 := by have := H.1.2.2.1; omega
  have s5 := H.1.1
  have T0 := T.1.1
  unfold f_X10_stepped
  by_cases h0 : X = 0
  · subst h0
    rw [stp_0]
    simp (disch := omega) only [li_0, li_1, li_2, li_3, li_4, li_5, li_6, li_7, li_8, li_9, li_10, li_12, li_13, li_14, li_15, li_16, li_20, li_24, li_25, li_31, li_32, li_40, li_48, li_54, li_56, li_64, li_72, li_97, li_99, li_100, li_112, li_122, li_144, li_145, li_155, li_157, li_200, li_216, li_255, li_256, li_432, li_437, li_438, li_462, li_463, li_713, li_900, li_940, lL_0, lL_1, lL_255, lL_1099511627776, neg_1, ltT, ltF, leT, leF, eqT, eqF, ltMT, ltMF, leMT, leMF, eqMF, eqMF', addM, inbT, clp, nI_add, subN, pk_mul, nzT, remN, shl1, bitN, bit0, bit1, lcE, lcLE, lcLT, LleT, LleF, LltT, LltF, LeqT, LeqF, ↓bndS, ↓bnvS, ↓lt_s1, bndS, bnvS, eq_self, ↓reduceIte]
    refine sq3 (σ 0) (fun _ => lN 0) (fun i => nI i) (fun _ => h) (fun self => ?_) (fun self i hi => ?_) (by omega) rfl rfl rfl
    · unfold F_X10_stepped_24
      simp (disch := omega) only [li_0, li_1, li_2, li_3, li_4, li_5, li_6, li_7, li_8, li_9, li_10, li_12, li_13, li_14, li_15, li_16, li_20, li_24, li_25, li_31, li_32, li_40, li_48, li_54, li_56, li_64, li_72, li_97, li_99, li_100, li_112, li_122, li_144, li_145, li_155, li_157, li_200, li_216, li_255, li_256, li_432, li_437, li_438, li_462, li_463, li_713, li_900, li_940, lL_0, lL_1, lL_255, lL_1099511627776, neg_1, ltT, ltF, leT, leF, eqT, eqF, ltMT, ltMF, leMT, leMF, eqMF, eqMF', addM, inbT, clp, nI_add, subN, pk_mul, nzT, remN, shl1, bitN, bit0, bit1, lcE, lcLE, lcLT, LleT, LleF, LltT, LltF, LeqT, LeqF, ↓bndS, ↓bnvS, ↓lt_s1, bndS, bnvS, eq_self, ↓reduceIte, T0]
    · unfold F_X10_stepped_24
      simp (disch := omega) only [li_0, li_1, li_2, li_3, li_4, li_5, li_6, li_7, li_8, li_9, li_10, li_12, li_13, li_14, li_15, li_16, li_20, li_24, li_25, li_31, li_32, li_40, li_48, li_54, li_56, li_64, li_72, li_97, li_99, li_100, li_112, li_122, li_144, li_145, li_155, li_157, li_200, li_216, li_255, li_256, li_432, li_437, li_438, li_462, li_463, li_713, li_900, li_940, lL_0, lL_1, lL_255, lL_1099511627776, neg_1, ltT, ltF, leT, leF, eqT, eqF, ltMT, ltMF, leMT, leMF, eqMF, eqMF', addM, inbT, clp, nI_add, subN, pk_mul, nzT, remN, shl1, bitN, bit0, bit1, lcE, lcLE, lcLT, LleT, LleF, LltT, LltF, LeqT, LeqF, ↓bndS, ↓bnvS, ↓lt_s1, bndS, bnvS, eq_self, ↓reduceIte, T0, Nat.zero_testBit]
  · have hr := T.2.2.2.2.2.1.1 w w8
    have rl := rds_lt H w8
    simp (disch := omega) only [li_0, li_1, li_2, li_3, li_4, li_5, li_6, li_7, li_8, li_9, li_10, li_12, li_13, li_14, li_15, li_16, li_20, li_24, li_25, li_31, li_32, li_40, li_48, li_54, li_56, li_64, li_72, li_97, li_99, li_100, li_112, li_122, li_144, li_145, li_155, li_157, li_200, li_216, li_255, li_256, li_432, li_437, li_438, li_462, li_463, li_713, li_900, li_940, lL_0, lL_1, lL_255, lL_1099511627776, neg_1, ltT, ltF, leT, leF, eqT, eqF, ltMT, ltMF, leMT, leMF, eqMF, eqMF', addM, inbT, clp, nI_add, subN, pk_mul, nzT, remN, shl1, bitN, bit0, bit1, lcE, lcLE, lcLT, LleT, LleF, LltT, LltF, LeqT, LeqF, ↓bndS, ↓bnvS, ↓lt_s1, bndS, bnvS, eq_self, ↓reduceIte, hr]
    refine sq3 (σ 0) (fun i => lN (pk8 (stb σ X w) i)) (fun i => nI i) (fun _ => h) (fun self => ?_) (fun self i hi => ?_) (by omega) rfl rfl rfl
    · unfold F_X10_stepped_24
      simp (disch := omega) only [li_0, li_1, li_2, li_3, li_4, li_5, li_6, li_7, li_8, li_9, li_10, li_12, li_13, li_14, li_15, li_16, li_20, li_24, li_25, li_31, li_32, li_40, li_48, li_54, li_56, li_64, li_72, li_97, li_99, li_100, li_112, li_122, li_144, li_145, li_155, li_157, li_200, li_216, li_255, li_256, li_432, li_437, li_438, li_462, li_463, li_713, li_900, li_940, lL_0, lL_1, lL_255, lL_1099511627776, neg_1, ltT, ltF, leT, leF, eqT, eqF, ltMT, ltMF, leMT, leMF, eqMF, eqMF', addM, inbT, clp, nI_add, subN, pk_mul, nzT, remN, shl1, bitN, bit0, bit1, lcE, lcLE, lcLT, LleT, LleF, LltT, LltF, LeqT, LeqF, ↓bndS, ↓bnvS, ↓lt_s1, bndS, bnvS, eq_self, ↓reduceIte, T0]
      rw [stp_srt H w8]
    · have rb := rds_bit H w8 (k := i) (by omega)
      have hp : pk8 (stb σ X w) (i + 1) = pk8 (stb σ X w) i + stb σ X w i * 2 ^ (8 * i) := rfl
      unfold F_X10_stepped_24
      by_cases h1 : σ (72 + 5 * w + i) = 1
      · have al := ahd_lt H (k := i) (by omega)
        have a1 := ain_lt (σ := σ) X i
        have e1 : f_X10_anyOf (lN X &&& lN (ahd σ i)) h = some (nI (ain σ X i), h) := by
          rw [wb_and (by omega) (by omega), c_anyOf (Nat.lt_of_le_of_lt Nat.and_le_left (by omega)), any_ain H X (by omega)]
        have hl := T.2.2.2.1.1 i (by omega)
        have hm := T.2.2.2.2.2.2.2 (by omega)
        have i1 := img_lt H (p := 5 * w + i) (by omega) (ain σ X i)
        have e2 : mos σ ((w * 5 + i) * 32 + ain σ X i % 16) ||| mos σ ((w * 5 + i) * 32 + 16 + ain σ X i / 2 ^ 4) = img σ (5 * w + i) (ain σ X i) := by
          rw [show w * 5 + i = 5 * w + i by omega]
          exact mos_img (by rw [← h1]; congr 1; omega) a1
        have s4 : jshr (nI (ain σ X i)) (nI 4) = nI (ain σ X i / 2 ^ 4) := shrN (by omega) (by decide)
        have d16 : ain σ X i / 2 ^ 4 < 16 := by rw [show (2 : Nat) ^ 4 = 16 from rfl]; omega
        have e3 : stb σ X w i = img σ (5 * w + i) (ain σ X i) := by unfold stb; rw [if_pos h1]
        simp (disch := omega) only [li_0, li_1, li_2, li_3, li_4, li_5, li_6, li_7, li_8, li_9, li_10, li_12, li_13, li_14, li_15, li_16, li_20, li_24, li_25, li_31, li_32, li_40, li_48, li_54, li_56, li_64, li_72, li_97, li_99, li_100, li_112, li_122, li_144, li_145, li_155, li_157, li_200, li_216, li_255, li_256, li_432, li_437, li_438, li_462, li_463, li_713, li_900, li_940, lL_0, lL_1, lL_255, lL_1099511627776, neg_1, ltT, ltF, leT, leF, eqT, eqF, ltMT, ltMF, leMT, leMF, eqMF, eqMF', addM, inbT, clp, nI_add, subN, pk_mul, nzT, remN, shl1, bitN, bit0, bit1, lcE, lcLE, lcLT, LleT, LleF, LltT, LltF, LeqT, LeqF, ↓bndS, ↓bnvS, ↓lt_s1, bndS, bnvS, eq_self, ↓reduceIte, T0, rb, h1, hl, e1, nand15, s4, hm, fa_or, e2, ItoL, Lshl, decide_true, Bool.true_eq_false]
        rw [← e3, pk8_or (by omega) (stb_lt H w8)]
      · have e3 : stb σ X w i = 0 := by unfold stb; rw [if_neg h1]
        rw [hp, e3]
        simp (disch := omega) only [li_0, li_1, li_2, li_3, li_4, li_5, li_6, li_7, li_8, li_9, li_10, li_12, li_13, li_14, li_15, li_16, li_20, li_24, li_25, li_31, li_32, li_40, li_48, li_54, li_56, li_64, li_72, li_97, li_99, li_100, li_112, li_122, li_144, li_145, li_155, li_157, li_200, li_216, li_255, li_256, li_432, li_437, li_438, li_462, li_463, li_713, li_900, li_940, lL_0, lL_1, lL_255, lL_1099511627776, neg_1, ltT, ltF, leT, leF, eqT, eqF, ltMT, ltMF, leMT, leMF, eqMF, eqMF', addM, inbT, clp, nI_add, subN, pk_mul, nzT, remN, shl1, bitN, bit0, bit1, lcE, lcLE, lcLT, LleT, LleF, LltT, LltF, LeqT, LeqF, ↓bndS, ↓bnvS, ↓lt_s1, bndS, bnvS, eq_self, ↓reduceIte, T0, rb, h1, decide_false, Nat.zero_mul, Nat.add_zero]
theorem LeqM {a : Nat} (ha : a < 9223372036854775808) : (lN a = -lN 1) = False := eq_false (fun z => by
  have h1 : (lN a).toInt = (-lN 1).toInt := by rw [z]
  rw [pk_lT (by omega), show (-lN 1).toInt = -1 from rfl] at h1
  omega)
theorem ain_start (H : TgOk σ nm) {k : Nat} (hk : k < 5) : ain σ 1099511627776 k = σ (5 + k) := by
  have b := H.2.1 (5 + k) (by omega) (by omega)
  have e : ∀ o, o < 5 → byo 1099511627776 o = 0 := by decide
  unfold ain
  simp only [ors]
  rw [e 0 (by omega), e 1 (by omega), e 2 (by omega), e 3 (by omega), e 4 (by omega), show byo 1099511627776 5 = 1 from rfl]
  simp only [ite_self, Nat.or_zero, Nat.zero_or]
  unfold fol
  rw [if_pos rfl]
  by_cases h1 : σ (5 + k) = 1
  · rw [if_pos h1, h1]
  · rw [if_neg h1]; omega
theorem ain_norm (H : TgOk σ nm) {X k : Nat} (hX : X < 1099511627776) (hk : k < 5) : ain σ X k = ors (fun o => if σ (15 + 5 * o + k) = 1 then byo X o else 0) (σ 0) := by
  have e : byo X 5 = 0 := byo_big (by exact hX)
  unfold ain
  rw [show (6 : Nat) = 5 + 1 from rfl]
  show ors _ 5 ||| (if fol σ 5 k = 1 then byo X 5 else 0) = _
  rw [e, ite_self, Nat.or_zero, ors_cong (g := fun o => if σ (15 + 5 * o + k) = 1 then byo X o else 0) 5 (fun i hi => by show (if fol σ i k = 1 then byo X i else 0) = _; unfold fol; rw [if_neg (show ¬ i = 5 by omega)])]
  exact ors_zero (σ 0) 5 H.1.1 (fun i h1 h2 => by
    show (if _ then _ else _) = _
    rw [((H.2.2.1 i h1 h2).2.2.1 k hk).2]
    rfl)
theorem m_comes {X w : Nat} (hs : ∀ k, k < 15 → h.1 157 k = nI (σ k)) (C : Cache σ h) (H : TgOk σ nm) (hX : X ≤ 1099511627776) (hw : w < σ 2) : f_X13_comes (mst X) (nI w) h = some (lN (stp σ X w), h) := by
  have w8 : w < 8 := by have := H.1.2.2.1; omega
  have s5 := H.1.1
  obtain ⟨C1, C2, C3⟩ := C
  unfold f_X13_comes
  refine sq3 (σ 0) (fun i => lN (pk8 (stb σ X w) i)) (fun i => nI i) (fun _ => h) (fun self => ?_) (fun self i hi => ?_) (by omega) rfl rfl rfl
  · unfold F_X13_comes_6
    simp (disch := omega) only [li_0, li_1, li_2, li_3, li_4, li_5, li_6, li_7, li_8, li_9, li_10, li_12, li_13, li_14, li_15, li_16, li_20, li_24, li_25, li_31, li_32, li_40, li_48, li_54, li_56, li_64, li_72, li_97, li_99, li_100, li_112, li_122, li_144, li_145, li_155, li_157, li_200, li_216, li_255, li_256, li_432, li_437, li_438, li_462, li_463, li_713, li_900, li_940, lL_0, lL_1, lL_255, lL_1099511627776, neg_1, ltT, ltF, leT, leF, eqT, eqF, ltMT, ltMF, leMT, leMF, eqMF, eqMF', addM, inbT, clp, nI_add, subN, pk_mul, nzT, remN, shl1, bitN, bit0, bit1, lcE, lcLE, lcLT, LleT, LleF, LltT, LltF, LeqT, LeqF, ↓bndS, ↓bnvS, ↓lt_s1, bndS, bnvS, eq_self, ↓reduceIte, hs]
    rw [stp_srt H w8]
  · have hp : pk8 (stb σ X w) (i + 1) = pk8 (stb σ X w) i + stb σ X w i * 2 ^ (8 * i) := rfl
    have rl := H.2.2.2.2.1 (72 + 5 * w + i) (by omega) (by omega)
    have r5 : σ (72 + (5 * w + i)) = σ (72 + 5 * w + i) := by congr 1; omega
    unfold F_X13_comes_6
    by_cases h1 : σ (72 + 5 * w + i) = 1
    · have a1 := ain_lt (σ := σ) X i
      have i1 := img_lt H (p := 5 * w + i) (by omega) (ain σ X i)
      have e3 : stb σ X w i = img σ (5 * w + i) (ain σ X i) := by unfold stb; rw [if_pos h1]
      have kB : ∀ self : Int64 → Int32 → Hp → Option (Int64 × Hp), B_X13_comes_117 (mst X) (nI w) (fun v19 h18 => some (v19, h18)) self (lN (pk8 (stb σ X w) i)) (nI i) (nI (ain σ X i)) h = self (lN (pk8 (stb σ X w) (i + 1))) (nI (i + 1)) h := by
        intro self
        unfold B_X13_comes_117
        simp (disch := omega) only [li_0, li_1, li_2, li_3, li_4, li_5, li_6, li_7, li_8, li_9, li_10, li_12, li_13, li_14, li_15, li_16, li_20, li_24, li_25, li_31, li_32, li_40, li_48, li_54, li_56, li_64, li_72, li_97, li_99, li_100, li_112, li_122, li_144, li_145, li_155, li_157, li_200, li_216, li_255, li_256, li_432, li_437, li_438, li_462, li_463, li_713, li_900, li_940, lL_0, lL_1, lL_255, lL_1099511627776, neg_1, ltT, ltF, leT, leF, eqT, eqF, ltMT, ltMF, leMT, leMF, eqMF, eqMF', addM, inbT, clp, nI_add, subN, pk_mul, nzT, remN, shl1, bitN, bit0, bit1, lcE, lcLE, lcLT, LleT, LleF, LltT, LltF, LeqT, LeqF, ↓bndS, ↓bnvS, ↓lt_s1, bndS, bnvS, eq_self, ↓reduceIte, C3, ItoL, Lshl]
        rw [← e3, pk8_or (by omega) (stb_lt H w8)]
      by_cases hs0 : X = 1099511627776
      · have em : mst X = -lN 1 := if_pos hs0
        rw [em] at kB ⊢
        rw [hs0, ain_start H (by omega)] at kB
        simp (disch := omega) only [li_0, li_1, li_2, li_3, li_4, li_5, li_6, li_7, li_8, li_9, li_10, li_12, li_13, li_14, li_15, li_16, li_20, li_24, li_25, li_31, li_32, li_40, li_48, li_54, li_56, li_64, li_72, li_97, li_99, li_100, li_112, li_122, li_144, li_145, li_155, li_157, li_200, li_216, li_255, li_256, li_432, li_437, li_438, li_462, li_463, li_713, li_900, li_940, lL_0, lL_1, lL_255, lL_1099511627776, neg_1, ltT, ltF, leT, leF, eqT, eqF, ltMT, ltMF, leMT, leMF, eqMF, eqMF', addM, inbT, clp, nI_add, subN, pk_mul, nzT, remN, shl1, bitN, bit0, bit1, lcE, lcLE, lcLT, LleT, LleF, LltT, LltF, LeqT, LeqF, ↓bndS, ↓bnvS, ↓lt_s1, bndS, bnvS, eq_self, ↓reduceIte, hs, C2, r5, h1, hs0]
        rw [← kB self]
        refine sq3 0 (fun _ => nI (σ (5 + i))) (fun i => nI i) (fun _ => h) (fun self => ?_) (fun self i hi => by omega) (by omega) rfl rfl rfl
        unfold F_X13_comes_59
        simp (disch := omega) only [li_0, li_1, li_2, li_3, li_4, li_5, li_6, li_7, li_8, li_9, li_10, li_12, li_13, li_14, li_15, li_16, li_20, li_24, li_25, li_31, li_32, li_40, li_48, li_54, li_56, li_64, li_72, li_97, li_99, li_100, li_112, li_122, li_144, li_145, li_155, li_157, li_200, li_216, li_255, li_256, li_432, li_437, li_438, li_462, li_463, li_713, li_900, li_940, lL_0, lL_1, lL_255, lL_1099511627776, neg_1, ltT, ltF, leT, leF, eqT, eqF, ltMT, ltMF, leMT, leMF, eqMF, eqMF', addM, inbT, clp, nI_add, subN, pk_mul, nzT, remN, shl1, bitN, bit0, bit1, lcE, lcLE, lcLT, LleT, LleF, LltT, LltF, LeqT, LeqF, ↓bndS, ↓bnvS, ↓lt_s1, bndS, bnvS, eq_self, ↓reduceIte, hs, hs0]
      · have em : mst X = lN X := if_neg hs0
        rw [em] at kB ⊢
        have lm := LeqM (a := X) (by omega)
        simp (disch := omega) only [li_0, li_1, li_2, li_3, li_4, li_5, li_6, li_7, li_8, li_9, li_10, li_12, li_13, li_14, li_15, li_16, li_20, li_24, li_25, li_31, li_32, li_40, li_48, li_54, li_56, li_64, li_72, li_97, li_99, li_100, li_112, li_122, li_144, li_145, li_155, li_157, li_200, li_216, li_255, li_256, li_432, li_437, li_438, li_462, li_463, li_713, li_900, li_940, lL_0, lL_1, lL_255, lL_1099511627776, neg_1, ltT, ltF, leT, leF, eqT, eqF, ltMT, ltMF, leMT, leMF, eqMF, eqMF', addM, inbT, clp, nI_add, subN, pk_mul, nzT, remN, shl1, bitN, bit0, bit1, lcE, lcLE, lcLT, LleT, LleF, LltT, LltF, LeqT, LeqF, ↓bndS, ↓bnvS, ↓lt_s1, bndS, bnvS, eq_self, ↓reduceIte, hs, C2, r5, h1, lm]
        rw [← kB self]
        refine sq3 (σ 0) (fun o => nI (ors (fun o => if σ (15 + 5 * o + i) = 1 then byo X o else 0) o)) (fun i => nI i) (fun _ => h) (fun self => ?_) (fun self o ho => ?_) (by omega) rfl rfl rfl
        · unfold F_X13_comes_59
          simp (disch := omega) only [li_0, li_1, li_2, li_3, li_4, li_5, li_6, li_7, li_8, li_9, li_10, li_12, li_13, li_14, li_15, li_16, li_20, li_24, li_25, li_31, li_32, li_40, li_48, li_54, li_56, li_64, li_72, li_97, li_99, li_100, li_112, li_122, li_144, li_145, li_155, li_157, li_200, li_216, li_255, li_256, li_432, li_437, li_438, li_462, li_463, li_713, li_900, li_940, lL_0, lL_1, lL_255, lL_1099511627776, neg_1, ltT, ltF, leT, leF, eqT, eqF, ltMT, ltMF, leMT, leMF, eqMF, eqMF', addM, inbT, clp, nI_add, subN, pk_mul, nzT, remN, shl1, bitN, bit0, bit1, lcE, lcLE, lcLT, LleT, LleF, LltT, LltF, LeqT, LeqF, ↓bndS, ↓bnvS, ↓lt_s1, bndS, bnvS, eq_self, ↓reduceIte, hs]
          rw [ain_norm H (by omega) (by omega)]
        · have ho2 : ors (fun o => if σ (15 + 5 * o + i) = 1 then byo X o else 0) (o + 1) = ors (fun o => if σ (15 + 5 * o + i) = 1 then byo X o else 0) o ||| (if σ (15 + 5 * o + i) = 1 then byo X o else 0) := rfl
          have f1 := H.2.1 (15 + 5 * o + i) (by omega) (by omega)
          have f2 : σ (15 + (5 * o + i)) = σ (15 + 5 * o + i) := by congr 1; omega
          unfold F_X13_comes_59
          by_cases h2 : σ (15 + 5 * o + i) = 1
          · have d1 : X / 2 ^ (8 * o) < 18446744073709551616 := Nat.lt_of_le_of_lt (Nat.div_le_self _ _) (by omega)
            have b1 : X / 2 ^ (8 * o) % 256 = byo X o := rfl
            rw [ho2, if_pos h2]
            simp (disch := omega) only [li_0, li_1, li_2, li_3, li_4, li_5, li_6, li_7, li_8, li_9, li_10, li_12, li_13, li_14, li_15, li_16, li_20, li_24, li_25, li_31, li_32, li_40, li_48, li_54, li_56, li_64, li_72, li_97, li_99, li_100, li_112, li_122, li_144, li_145, li_155, li_157, li_200, li_216, li_255, li_256, li_432, li_437, li_438, li_462, li_463, li_713, li_900, li_940, lL_0, lL_1, lL_255, lL_1099511627776, neg_1, ltT, ltF, leT, leF, eqT, eqF, ltMT, ltMF, leMT, leMF, eqMF, eqMF', addM, inbT, clp, nI_add, subN, pk_mul, nzT, remN, shl1, bitN, bit0, bit1, lcE, lcLE, lcLT, LleT, LleF, LltT, LltF, LeqT, LeqF, ↓bndS, ↓bnvS, ↓lt_s1, bndS, bnvS, eq_self, ↓reduceIte, hs, lm, C1, f2, h2, Lshr, Land255, b1, LtoI, fa_or]
          · rw [ho2, if_neg h2]
            simp (disch := omega) only [li_0, li_1, li_2, li_3, li_4, li_5, li_6, li_7, li_8, li_9, li_10, li_12, li_13, li_14, li_15, li_16, li_20, li_24, li_25, li_31, li_32, li_40, li_48, li_54, li_56, li_64, li_72, li_97, li_99, li_100, li_112, li_122, li_144, li_145, li_155, li_157, li_200, li_216, li_255, li_256, li_432, li_437, li_438, li_462, li_463, li_713, li_900, li_940, lL_0, lL_1, lL_255, lL_1099511627776, neg_1, ltT, ltF, leT, leF, eqT, eqF, ltMT, ltMF, leMT, leMF, eqMF, eqMF', addM, inbT, clp, nI_add, subN, pk_mul, nzT, remN, shl1, bitN, bit0, bit1, lcE, lcLE, lcLT, LleT, LleF, LltT, LltF, LeqT, LeqF, ↓bndS, ↓bnvS, ↓lt_s1, bndS, bnvS, eq_self, ↓reduceIte, hs, lm, C1, f2, h2, Nat.or_zero]
    · have e3 : stb σ X w i = 0 := by unfold stb; rw [if_neg h1]
      rw [hp, e3]
      simp (disch := omega) only [li_0, li_1, li_2, li_3, li_4, li_5, li_6, li_7, li_8, li_9, li_10, li_12, li_13, li_14, li_15, li_16, li_20, li_24, li_25, li_31, li_32, li_40, li_48, li_54, li_56, li_64, li_72, li_97, li_99, li_100, li_112, li_122, li_144, li_145, li_155, li_157, li_200, li_216, li_255, li_256, li_432, li_437, li_438, li_462, li_463, li_713, li_900, li_940, lL_0, lL_1, lL_255, lL_1099511627776, neg_1, ltT, ltF, leT, leF, eqT, eqF, ltMT, ltMF, leMT, leMF, eqMF, eqMF', addM, inbT, clp, nI_add, subN, pk_mul, nzT, remN, shl1, bitN, bit0, bit1, lcE, lcLE, lcLT, LleT, LleF, LltT, LltF, LeqT, LeqF, ↓bndS, ↓bnvS, ↓lt_s1, bndS, bnvS, eq_self, ↓reduceIte, hs, C2, r5, h1, Nat.zero_mul, Nat.add_zero]
theorem m_ends {X : Nat} (hs : ∀ k, k < 15 → h.1 157 k = nI (σ k)) (H : TgOk σ nm) (hX : X ≤ 1099511627776) : f_X13_ends (mst X) h = some (nI (mnt σ X), h) := by
  have s5 := H.1.1
  unfold f_X13_ends
  by_cases hs0 : X = 1099511627776
  · have em : mst X = -lN 1 := if_pos hs0
    have e0 : mnt σ X = 0 := by
      have e : ∀ o, o < 5 → byo 1099511627776 o = 0 := by decide
      unfold mnt
      simp only [ors]
      rw [hs0, e 0 (by omega), e 1 (by omega), e 2 (by omega), e 3 (by omega), e 4 (by omega)]
      simp
    rw [em, e0]
    refine sq3 0 (fun _ => nI 0) (fun i => nI i) (fun _ => h) (fun self => ?_) (fun self i hi => by omega) (by omega) rfl rfl rfl
    unfold F_X13_ends_5
    by_cases h0 : σ 0 = 0
    · simp (disch := omega) only [li_0, li_1, li_2, li_3, li_4, li_5, li_6, li_7, li_8, li_9, li_10, li_12, li_13, li_14, li_15, li_16, li_20, li_24, li_25, li_31, li_32, li_40, li_48, li_54, li_56, li_64, li_72, li_97, li_99, li_100, li_112, li_122, li_144, li_145, li_155, li_157, li_200, li_216, li_255, li_256, li_432, li_437, li_438, li_462, li_463, li_713, li_900, li_940, lL_0, lL_1, lL_255, lL_1099511627776, neg_1, ltT, ltF, leT, leF, eqT, eqF, ltMT, ltMF, leMT, leMF, eqMF, eqMF', addM, inbT, clp, nI_add, subN, pk_mul, nzT, remN, shl1, bitN, bit0, bit1, lcE, lcLE, lcLT, LleT, LleF, LltT, LltF, LeqT, LeqF, ↓bndS, ↓bnvS, ↓lt_s1, bndS, bnvS, eq_self, ↓reduceIte, hs, h0]
    · simp (disch := omega) only [li_0, li_1, li_2, li_3, li_4, li_5, li_6, li_7, li_8, li_9, li_10, li_12, li_13, li_14, li_15, li_16, li_20, li_24, li_25, li_31, li_32, li_40, li_48, li_54, li_56, li_64, li_72, li_97, li_99, li_100, li_112, li_122, li_144, li_145, li_155, li_157, li_200, li_216, li_255, li_256, li_432, li_437, li_438, li_462, li_463, li_713, li_900, li_940, lL_0, lL_1, lL_255, lL_1099511627776, neg_1, ltT, ltF, leT, leF, eqT, eqF, ltMT, ltMF, leMT, leMF, eqMF, eqMF', addM, inbT, clp, nI_add, subN, pk_mul, nzT, remN, shl1, bitN, bit0, bit1, lcE, lcLE, lcLT, LleT, LleF, LltT, LltF, LeqT, LeqF, ↓bndS, ↓bnvS, ↓lt_s1, bndS, bnvS, eq_self, ↓reduceIte, hs]
  · have em : mst X = lN X := if_neg hs0
    have lm := LeqM (a := X) (by omega)
    rw [em]
    refine sq3 (σ 0) (fun o => nI (ors (fun o => if σ (10 + o) = 1 then byo X o else 0) o)) (fun i => nI i) (fun _ => h) (fun self => ?_) (fun self o ho => ?_) (by omega) rfl rfl rfl
    · have e0 : ors (fun o => if σ (10 + o) = 1 then byo X o else 0) (σ 0) = mnt σ X := (ors_zero (σ 0) 5 H.1.1 (fun i h1 h2 => by
        show (if _ then _ else _) = _
        rw [(H.2.2.1 i h1 h2).2.1]
        rfl)).symm
      unfold F_X13_ends_5
      simp (disch := omega) only [li_0, li_1, li_2, li_3, li_4, li_5, li_6, li_7, li_8, li_9, li_10, li_12, li_13, li_14, li_15, li_16, li_20, li_24, li_25, li_31, li_32, li_40, li_48, li_54, li_56, li_64, li_72, li_97, li_99, li_100, li_112, li_122, li_144, li_145, li_155, li_157, li_200, li_216, li_255, li_256, li_432, li_437, li_438, li_462, li_463, li_713, li_900, li_940, lL_0, lL_1, lL_255, lL_1099511627776, neg_1, ltT, ltF, leT, leF, eqT, eqF, ltMT, ltMF, leMT, leMF, eqMF, eqMF', addM, inbT, clp, nI_add, subN, pk_mul, nzT, remN, shl1, bitN, bit0, bit1, lcE, lcLE, lcLT, LleT, LleF, LltT, LltF, LeqT, LeqF, ↓bndS, ↓bnvS, ↓lt_s1, bndS, bnvS, eq_self, ↓reduceIte, hs]
      rw [e0]
    · have ho2 : ors (fun o => if σ (10 + o) = 1 then byo X o else 0) (o + 1) = ors (fun o => if σ (10 + o) = 1 then byo X o else 0) o ||| (if σ (10 + o) = 1 then byo X o else 0) := rfl
      have f1 := H.2.1 (10 + o) (by omega) (by omega)
      unfold F_X13_ends_5
      by_cases h2 : σ (10 + o) = 1
      · have d1 : X / 2 ^ (8 * o) < 18446744073709551616 := Nat.lt_of_le_of_lt (Nat.div_le_self _ _) (by omega)
        have b1 : X / 2 ^ (8 * o) % 256 = byo X o := rfl
        rw [ho2, if_pos h2]
        simp (disch := omega) only [li_0, li_1, li_2, li_3, li_4, li_5, li_6, li_7, li_8, li_9, li_10, li_12, li_13, li_14, li_15, li_16, li_20, li_24, li_25, li_31, li_32, li_40, li_48, li_54, li_56, li_64, li_72, li_97, li_99, li_100, li_112, li_122, li_144, li_145, li_155, li_157, li_200, li_216, li_255, li_256, li_432, li_437, li_438, li_462, li_463, li_713, li_900, li_940, lL_0, lL_1, lL_255, lL_1099511627776, neg_1, ltT, ltF, leT, leF, eqT, eqF, ltMT, ltMF, leMT, leMF, eqMF, eqMF', addM, inbT, clp, nI_add, subN, pk_mul, nzT, remN, shl1, bitN, bit0, bit1, lcE, lcLE, lcLT, LleT, LleF, LltT, LltF, LeqT, LeqF, ↓bndS, ↓bnvS, ↓lt_s1, bndS, bnvS, eq_self, ↓reduceIte, hs, lm, h2, Lshr, Land255, b1, LtoI, fa_or]
      · rw [ho2, if_neg h2]
        simp (disch := omega) only [li_0, li_1, li_2, li_3, li_4, li_5, li_6, li_7, li_8, li_9, li_10, li_12, li_13, li_14, li_15, li_16, li_20, li_24, li_25, li_31, li_32, li_40, li_48, li_54, li_56, li_64, li_72, li_97, li_99, li_100, li_112, li_122, li_144, li_145, li_155, li_157, li_200, li_216, li_255, li_256, li_432, li_437, li_438, li_462, li_463, li_713, li_900, li_940, lL_0, lL_1, lL_255, lL_1099511627776, neg_1, ltT, ltF, leT, leF, eqT, eqF, ltMT, ltMF, leMT, leMF, eqMF, eqMF', addM, inbT, clp, nI_add, subN, pk_mul, nzT, remN, shl1, bitN, bit0, bit1, lcE, lcLE, lcLT, LleT, LleF, LltT, LltF, LeqT, LeqF, ↓bndS, ↓bnvS, ↓lt_s1, bndS, bnvS, eq_self, ↓reduceIte, hs, lm, h2, Nat.or_zero]
end STEP
