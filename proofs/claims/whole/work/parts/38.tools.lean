/-! ===== tools: numbers under simp, loops as sequences ===== -/
theorem wb_tb (n : Nat) : (lN n).toBitVec = BitVec.ofNat 64 n := rfl
theorem wb_inj {a b : Int64} (h : a.toBitVec = b.toBitVec) : a = b := Int64.toBitVec_inj.mp h
theorem wb_tn {n : Nat} (h : n < 2 ^ 64) : (lN n).toBitVec.toNat = n := by rw [wb_tb, BitVec.toNat_ofNat, Nat.mod_eq_of_lt h]
theorem wb_of (x : Int64) : ∃ n, n < 2 ^ 64 ∧ x = lN n := ⟨x.toBitVec.toNat, x.toBitVec.isLt, wb_inj (by rw [wb_tb]; simp)⟩
theorem wb_of32 (x : Int32) : ∃ n, n < 2 ^ 32 ∧ x = nI n := ⟨x.toBitVec.toNat, x.toBitVec.isLt, Int32.toBitVec_inj.mp (by show _ = BitVec.ofNat 32 _; simp)⟩
theorem wb_c : ∀ k, k < 64 → ((nI k).toInt64 &&& 63) = lN k := by decide +kernel
theorem wb_cu : ∀ k, k < 64 → ((nI k).toInt64.toUInt64 &&& Int64.toUInt64 63) = UInt64.ofNat k := by decide +kernel
theorem wb_sm : ∀ k, k < 64 → (BitVec.ofNat 64 k).smod 64 = BitVec.ofNat 64 k := by decide +kernel
theorem wb_pw {a b : Nat} (h : a ≤ b) : 2 ^ b = 2 ^ a * 2 ^ (b - a) := by rw [← Nat.pow_add]; congr 1; omega
theorem wb_lt2 {a b : Nat} (h : a < b) : 2 ^ a < 2 ^ b := Nat.pow_lt_pow_right (by decide) h
theorem wb_mod (n : Nat) : lN n = lN (n % 2 ^ 64) := wb_inj (by rw [wb_tb, wb_tb]; apply BitVec.eq_of_toNat_eq; rw [BitVec.toNat_ofNat, BitVec.toNat_ofNat, Nat.mod_mod])
theorem wb_shr {n k : Nat} (hn : n < 2 ^ 64) (hk : k < 64) : ((lN n).toUInt64 >>> ((nI k).toInt64.toUInt64 &&& Int64.toUInt64 63)).toInt64 = lN (n / 2 ^ k) := by
  rw [wb_cu k hk]
  apply wb_inj
  apply BitVec.eq_of_toNat_eq
  show ((lN n).toUInt64 >>> UInt64.ofNat k).toNat = (BitVec.ofNat 64 _).toNat
  have h1 : (UInt64.ofNat k).toNat = k := by
    show (BitVec.ofNat 64 k).toNat = k
    rw [BitVec.toNat_ofNat, Nat.mod_eq_of_lt (by omega)]
  have h2 : (lN n).toUInt64.toNat = n := wb_tn hn
  rw [UInt64.toNat_shiftRight, h1, h2, Nat.mod_eq_of_lt hk, Nat.shiftRight_eq_div_pow, BitVec.toNat_ofNat, Nat.mod_eq_of_lt (Nat.lt_of_le_of_lt (Nat.div_le_self _ _) hn)]
theorem wb_shl (n : Nat) {k : Nat} (hk : k < 64) : lN n <<< ((nI k).toInt64 &&& 63) = lN (n * 2 ^ k) := by
  rw [wb_c k hk]
  apply wb_inj
  rw [Int64.toBitVec_shiftLeft, wb_tb, wb_tb, wb_tb, wb_sm k hk]
  apply BitVec.eq_of_toNat_eq
  rw [BitVec.shiftLeft_eq', BitVec.toNat_shiftLeft, BitVec.toNat_ofNat, BitVec.toNat_ofNat, BitVec.toNat_ofNat, Nat.mod_eq_of_lt (show k < 2 ^ 64 by omega), Nat.shiftLeft_eq, Nat.mul_mod, Nat.mod_mod, ← Nat.mul_mod]
theorem wb_and {a b : Nat} (ha : a < 2 ^ 64) (hb : b < 2 ^ 64) : lN a &&& lN b = lN (a &&& b) := by
  apply wb_inj
  rw [Int64.toBitVec_and, wb_tb, wb_tb, wb_tb]
  apply BitVec.eq_of_toNat_eq
  rw [BitVec.toNat_and, BitVec.toNat_ofNat, BitVec.toNat_ofNat, BitVec.toNat_ofNat, Nat.mod_eq_of_lt ha, Nat.mod_eq_of_lt hb, Nat.mod_eq_of_lt (Nat.and_lt_two_pow _ hb)]
theorem wb_or {a b : Nat} (ha : a < 2 ^ 64) (hb : b < 2 ^ 64) : lN a ||| lN b = lN (a ||| b) := by
  apply wb_inj
  rw [Int64.toBitVec_or, wb_tb, wb_tb, wb_tb]
  apply BitVec.eq_of_toNat_eq
  rw [BitVec.toNat_or, BitVec.toNat_ofNat, BitVec.toNat_ofNat, BitVec.toNat_ofNat, Nat.mod_eq_of_lt ha, Nat.mod_eq_of_lt hb, Nat.mod_eq_of_lt (Nat.or_lt_two_pow ha hb)]
theorem wb_mask {n k : Nat} (hn : n < 2 ^ 64) (hk : k < 64) : lN n &&& lN (2 ^ k - 1) = lN (n % 2 ^ k) := by
  rw [wb_and hn (by have := wb_lt2 hk; omega), Nat.and_two_pow_sub_one_eq_mod]
theorem wb_a1 {n : Nat} (hn : n < 2 ^ 64) : lN n &&& 1 = lN (n % 2) := wb_mask (k := 1) hn (by decide)
theorem wb_bit {n k : Nat} (hn : n < 2 ^ 64) (hk : k < 64) : ((lN n).toUInt64 >>> ((nI k).toInt64.toUInt64 &&& Int64.toUInt64 63)).toInt64 &&& 1 = lN (n / 2 ^ k % 2) := by
  rw [wb_shr hn hk, wb_a1 (Nat.lt_of_le_of_lt (Nat.div_le_self _ _) hn)]
def mI (n : Nat) : Int32 := -nI n
theorem neg_1 : -(nI 1) = mI 1 := (Eq.refl (mI 1)).trans (Eq.refl _)
theorem ltT {a b : Nat} (h : a < b) (hb : b < 2147483648) : (nI a < nI b) = True := eq_true (nI_lt h hb)
theorem ltF {a b : Nat} (h : b ≤ a) (hb : a < 2147483648) : (nI a < nI b) = False := eq_false (nI_nlt h hb)
theorem leT {a b : Nat} (h : a ≤ b) (hb : b < 2147483648) : (nI a ≤ nI b) = True := eq_true (nI_le h hb)
theorem leF {a b : Nat} (h : b < a) (hb : a < 2147483648) : (nI a ≤ nI b) = False := eq_false (nI_ge h hb)
theorem eqT {a b : Nat} (h : a = b) : (nI a = nI b) = True := eq_true (by rw [h])
theorem eqF {a b : Nat} (h : a ≠ b) (ha : a < 2147483648) (hb : b < 2147483648) : (nI a = nI b) = False := eq_false (fun z => h ((nI_eq ha hb).mp z))
theorem mI_toInt {n : Nat} (h : n < 2147483648) : (mI n).toInt = -(n : Int) := sb_negT h
theorem ltMT {a b : Nat} (h : 0 < a) (ha : a < 2147483648) (hb : b < 2147483648) : (mI a < nI b) = True := eq_true (by rw [fa_lt, mI_toInt ha, nI_toInt hb]; omega)
theorem ltMF {a b : Nat} (ha : a < 2147483648) (hb : b < 2147483648) : (nI b < mI a) = False := eq_false (by rw [fa_lt, mI_toInt ha, nI_toInt hb]; omega)
theorem leMT {a b : Nat} (ha : a < 2147483648) (hb : b < 2147483648) : (mI a ≤ nI b) = True := eq_true (by rw [fa_le, mI_toInt ha, nI_toInt hb]; omega)
theorem leMF {a b : Nat} (h : 0 < a) (ha : a < 2147483648) (hb : b < 2147483648) : (nI b ≤ mI a) = False := eq_false (by rw [fa_le, mI_toInt ha, nI_toInt hb]; omega)
theorem eqMF {a b : Nat} (h : 0 < a) (ha : a < 2147483648) (hb : b < 2147483648) : (nI b = mI a) = False := eq_false (by rw [fa_eq, mI_toInt ha, nI_toInt hb]; omega)
theorem eqMF' {a b : Nat} (h : 0 < a) (ha : a < 2147483648) (hb : b < 2147483648) : (mI a = nI b) = False := eq_false (by rw [fa_eq, mI_toInt ha, nI_toInt hb]; omega)
theorem addM {a b : Nat} (h : b ≤ a) : nI a + mI b = nI (a - b) := by
  have := pk_sub h
  rw [← this]
  show nI a + -nI b = _
  rw [Int32.sub_eq_add_neg]
theorem inbT {k n : Nat} (h : k < n) (hn : n < 2147483648) : (inb (nI k) n = true) = True := eq_true (inb_nI h hn)
theorem clp {n : Nat} (h : n < 2147483648) : (nI n).toNatClampNeg = n := nI_clamp h
theorem subN {a b : Nat} (h : b ≤ a) : nI a - nI b = nI (a - b) := pk_sub h
theorem nzT {a : Nat} (h0 : 0 < a) (h : a < 2147483648) : (nz (nI a) = true) = True := eq_true (by unfold nz; exact decide_eq_true (nI_ne0 h0 h))
theorem remN {a d : Nat} (ha : a < 2147483648) (h0 : 0 < d) (hd : d < 2147483648) : jrem (nI a) (nI d) = nI (a % d) := pk_rem ha h0 hd
theorem divN {a d : Nat} (ha : a < 2147483648) (h0 : 0 < d) (hd : d < 2147483648) : nI a / nI d = nI (a / d) := pk_div ha h0 hd
theorem s32 : ∀ k, k < 32 → ((nI k &&& 31).toBitVec.smod 32).toNat = k := by decide +kernel
theorem shrN {a k : Nat} (ha : a < 2147483648) (hk : k < 32) : jshr (nI a) (nI k) = nI (a / 2 ^ k) := pk_shrN ha _ k (s32 k hk)
theorem shlN (a : Nat) {k : Nat} (hk : k < 32) : jshl (nI a) (nI k) = nI (a * 2 ^ k) := by
  apply Int32.toBitVec_inj.mp
  apply BitVec.eq_of_toNat_eq
  rw [pk_shl _ _ k (s32 k hk)]
  show (BitVec.ofNat 32 a).toNat * 2 ^ k % 2 ^ 32 = (BitVec.ofNat 32 (a * 2 ^ k)).toNat
  rw [BitVec.toNat_ofNat, BitVec.toNat_ofNat, Nat.mul_mod, Nat.mod_mod, ← Nat.mul_mod]
theorem shl1 {k : Nat} (hk : k < 32) : jshl (nI 1) (nI k) = nI (2 ^ k) := by rw [shlN 1 hk, Nat.one_mul]
theorem bitN {a k : Nat} (ha : a < 2147483648) (hk : k < 32) : jshr (nI a) (nI k) &&& nI 1 = nI (a.testBit k).toNat := by
  rw [shrN ha hk, fa_and, Nat.and_one_is_mod]
  congr 1
  rw [Nat.testBit_eq_decide_div_mod_eq]
  have : a / 2 ^ k % 2 < 2 := Nat.mod_lt _ (by decide)
  by_cases h : a / 2 ^ k % 2 = 1
  · rw [h]; rfl
  · have h2 : a / 2 ^ k % 2 = 0 := by omega
    rw [h2]; rfl
theorem bit0 (b : Bool) : (nI b.toNat = nI 0) = (b = false) := by cases b <;> decide
theorem bit1 (b : Bool) : (nI b.toNat = nI 1) = (b = true) := by cases b <;> decide
theorem lcE (x y : Int64) : (lg_cmp x y = nI 0) = (x = y) := propext (lg_cmp_eq x y)
theorem lcLE (x y : Int64) : (lg_cmp x y ≤ nI 0) = (x ≤ y) := propext (lg_cmp_le x y)
theorem lcLT (x y : Int64) : (nI 0 < lg_cmp x y) = (y < x) := propext (lg_cmp_gt x y)
theorem LleT {a b : Nat} (h : a ≤ b) (hb : b < 9223372036854775808) : (lN a ≤ lN b) = True := eq_true ((pk_lLE (by omega) hb).mpr h)
theorem LleF {a b : Nat} (h : b < a) (hb : a < 9223372036854775808) : (lN a ≤ lN b) = False := eq_false (fun z => by have := (pk_lLE hb (by omega)).mp z; omega)
theorem LltT {a b : Nat} (h : a < b) (hb : b < 9223372036854775808) : (lN a < lN b) = True := eq_true ((pk_lLT (by omega) hb).mpr h)
theorem LltF {a b : Nat} (h : b ≤ a) (hb : a < 9223372036854775808) : (lN a < lN b) = False := eq_false (fun z => by have := (pk_lLT hb (by omega)).mp z; omega)
theorem LeqT {a b : Nat} (h : a = b) : (lN a = lN b) = True := eq_true (by rw [h])
theorem LeqF {a b : Nat} (h : a ≠ b) (ha : a < 9223372036854775808) (hb : b < 9223372036854775808) : (lN a = lN b) = False := eq_false (fun z => h ((pk_lEQ ha hb).mp z))
theorem Lushr {n k : Nat} (hn : n < 18446744073709551616) (hk : k < 64) : jlushr (lN n) (nI k) = lN (n / 2 ^ k) := wb_shr hn hk
theorem Lshl (n : Nat) {k : Nat} (hk : k < 64) : jlshl (lN n) (nI k) = lN (n * 2 ^ k) := wb_shl n hk
theorem s64 : ∀ k, k < 64 → (((nI k).toInt64 &&& 63).toBitVec.smod 64).toNat = k := by decide +kernel
theorem Lshr {n k : Nat} (hn : n < 4611686018427387904) (hk : k < 64) : jlshr (lN n) (nI k) = lN (n / 2 ^ k) := by
  apply Int64.toInt_inj.mp
  show (lN n >>> ((nI k).toInt64 &&& 63)).toInt = _
  rw [pk_lT (Nat.lt_of_le_of_lt (Nat.div_le_self _ _) (by omega))]
  show ((lN n).toBitVec.sshiftRight' (((nI k).toInt64 &&& 63).toBitVec.smod 64)).toInt = _
  rw [BitVec.toInt_sshiftRight', s64 k hk]
  show ((lN n).toInt) >>> k = _
  rw [pk_lT (by omega), Int.shiftRight_eq_div_pow]
  simp
theorem LtoI {n : Nat} : (lN n).toInt32 = nI n := lN_i n
theorem ItoL {n : Nat} (h : n < 2147483648) : (nI n).toInt64 = lN n := nI_l h
theorem Land255 {n : Nat} (hn : n < 18446744073709551616) : lN n &&& lN 255 = lN (n % 256) := wb_mask (k := 8) hn (by decide)
theorem nand255 (n : Nat) (h : n < 4294967296) : nI n &&& nI 255 = nI (n % 256) := pk_andN h 8 rfl
theorem nand15 (n : Nat) (h : n < 4294967296) : nI n &&& nI 15 = nI (n % 16) := pk_andN h 4 rfl
theorem nand1 (n : Nat) (h : n < 4294967296) : nI n &&& nI 1 = nI (n % 2) := pk_andN h 1 rfl
theorem nand31 (n : Nat) (h : n < 4294967296) : nI n &&& nI 31 = nI (n % 32) := pk_andN h 5 rfl
theorem nandM {n k : Nat} (h : n < 4294967296) (hk : k ≤ 8) : nI n &&& nI (2 ^ k - 1) = nI (n % 2 ^ k) := pk_andN h k (by
  have : 2 ^ k ≤ 2 ^ 8 := Nat.pow_le_pow_right (by decide) hk
  exact pk_tn (by omega))
theorem bndS {α β : Type} (x : α) (h : Hp) (k : α → Hp → Option β) : bnd (some (x, h)) k = k x h := (Eq.refl (k x h)).trans (Eq.refl _)
theorem bnvS {β : Type} (h : Hp) (k : Hp → Option β) : bnv (some h) k = k h := (Eq.refl (k h)).trans (Eq.refl _)
theorem lt_s1 {α β : Type} (a : α) (f : α → β) : lt a f = f a := (Eq.refl (f a)).trans (Eq.refl _)
theorem byteB {c : Nat} (h : c < 256) : sb_b c &&& nI 255 = nI c := (sb_byte c h).1
theorem minT {a b : Nat} (h : a ≤ b) (hb : b < 2147483648) : jmin (nI a) (nI b) = nI a := if_neg (nI_nlt h hb)
theorem minF {a b : Nat} (h : b ≤ a) (hb : a < 2147483648) : jmin (nI a) (nI b) = nI b := by
  by_cases h2 : b < a
  · exact if_pos (nI_lt h2 hb)
  · rw [show b = a by omega]; exact ite_self _
theorem maxT {a b : Nat} (h : a ≤ b) (hb : b < 2147483648) : jmax (nI a) (nI b) = nI b := by
  by_cases h2 : a < b
  · exact if_pos (nI_lt h2 hb)
  · rw [show b = a by omega]; exact ite_self _
theorem maxF {a b : Nat} (h : b ≤ a) (hb : a < 2147483648) : jmax (nI a) (nI b) = nI a := if_neg (nI_nlt h hb)
theorem li_0 : (0 : Int32) = nI 0 := (Eq.refl (nI 0)).trans (Eq.refl _)
theorem li_1 : (1 : Int32) = nI 1 := (Eq.refl (nI 1)).trans (Eq.refl _)
theorem li_2 : (2 : Int32) = nI 2 := (Eq.refl (nI 2)).trans (Eq.refl _)
theorem li_3 : (3 : Int32) = nI 3 := (Eq.refl (nI 3)).trans (Eq.refl _)
theorem li_4 : (4 : Int32) = nI 4 := (Eq.refl (nI 4)).trans (Eq.refl _)
theorem li_5 : (5 : Int32) = nI 5 := (Eq.refl (nI 5)).trans (Eq.refl _)
theorem li_6 : (6 : Int32) = nI 6 := (Eq.refl (nI 6)).trans (Eq.refl _)
theorem li_7 : (7 : Int32) = nI 7 := (Eq.refl (nI 7)).trans (Eq.refl _)
theorem li_8 : (8 : Int32) = nI 8 := (Eq.refl (nI 8)).trans (Eq.refl _)
theorem li_9 : (9 : Int32) = nI 9 := (Eq.refl (nI 9)).trans (Eq.refl _)
theorem li_10 : (10 : Int32) = nI 10 := (Eq.refl (nI 10)).trans (Eq.refl _)
theorem li_12 : (12 : Int32) = nI 12 := (Eq.refl (nI 12)).trans (Eq.refl _)
theorem li_13 : (13 : Int32) = nI 13 := (Eq.refl (nI 13)).trans (Eq.refl _)
theorem li_14 : (14 : Int32) = nI 14 := (Eq.refl (nI 14)).trans (Eq.refl _)
theorem li_15 : (15 : Int32) = nI 15 := (Eq.refl (nI 15)).trans (Eq.refl _)
theorem li_16 : (16 : Int32) = nI 16 := (Eq.refl (nI 16)).trans (Eq.refl _)
theorem li_20 : (20 : Int32) = nI 20 := (Eq.refl (nI 20)).trans (Eq.refl _)
theorem li_24 : (24 : Int32) = nI 24 := (Eq.refl (nI 24)).trans (Eq.refl _)
theorem li_25 : (25 : Int32) = nI 25 := (Eq.refl (nI 25)).trans (Eq.refl _)
theorem li_31 : (31 : Int32) = nI 31 := (Eq.refl (nI 31)).trans (Eq.refl _)
theorem li_32 : (32 : Int32) = nI 32 := (Eq.refl (nI 32)).trans (Eq.refl _)
theorem li_40 : (40 : Int32) = nI 40 := (Eq.refl (nI 40)).trans (Eq.refl _)
theorem li_48 : (48 : Int32) = nI 48 := (Eq.refl (nI 48)).trans (Eq.refl _)
theorem li_54 : (54 : Int32) = nI 54 := (Eq.refl (nI 54)).trans (Eq.refl _)
theorem li_56 : (56 : Int32) = nI 56 := (Eq.refl (nI 56)).trans (Eq.refl _)
theorem li_64 : (64 : Int32) = nI 64 := (Eq.refl (nI 64)).trans (Eq.refl _)
theorem li_72 : (72 : Int32) = nI 72 := (Eq.refl (nI 72)).trans (Eq.refl _)
theorem li_97 : (97 : Int32) = nI 97 := (Eq.refl (nI 97)).trans (Eq.refl _)
theorem li_99 : (99 : Int32) = nI 99 := (Eq.refl (nI 99)).trans (Eq.refl _)
theorem li_100 : (100 : Int32) = nI 100 := (Eq.refl (nI 100)).trans (Eq.refl _)
theorem li_112 : (112 : Int32) = nI 112 := (Eq.refl (nI 112)).trans (Eq.refl _)
theorem li_122 : (122 : Int32) = nI 122 := (Eq.refl (nI 122)).trans (Eq.refl _)
theorem li_144 : (144 : Int32) = nI 144 := (Eq.refl (nI 144)).trans (Eq.refl _)
theorem li_145 : (145 : Int32) = nI 145 := (Eq.refl (nI 145)).trans (Eq.refl _)
theorem li_155 : (155 : Int32) = nI 155 := (Eq.refl (nI 155)).trans (Eq.refl _)
theorem li_157 : (157 : Int32) = nI 157 := (Eq.refl (nI 157)).trans (Eq.refl _)
theorem li_200 : (200 : Int32) = nI 200 := (Eq.refl (nI 200)).trans (Eq.refl _)
theorem li_216 : (216 : Int32) = nI 216 := (Eq.refl (nI 216)).trans (Eq.refl _)
theorem li_255 : (255 : Int32) = nI 255 := (Eq.refl (nI 255)).trans (Eq.refl _)
theorem li_256 : (256 : Int32) = nI 256 := (Eq.refl (nI 256)).trans (Eq.refl _)
theorem li_432 : (432 : Int32) = nI 432 := (Eq.refl (nI 432)).trans (Eq.refl _)
theorem li_437 : (437 : Int32) = nI 437 := (Eq.refl (nI 437)).trans (Eq.refl _)
theorem li_438 : (438 : Int32) = nI 438 := (Eq.refl (nI 438)).trans (Eq.refl _)
theorem li_462 : (462 : Int32) = nI 462 := (Eq.refl (nI 462)).trans (Eq.refl _)
theorem li_463 : (463 : Int32) = nI 463 := (Eq.refl (nI 463)).trans (Eq.refl _)
theorem li_713 : (713 : Int32) = nI 713 := (Eq.refl (nI 713)).trans (Eq.refl _)
theorem li_900 : (900 : Int32) = nI 900 := (Eq.refl (nI 900)).trans (Eq.refl _)
theorem li_940 : (940 : Int32) = nI 940 := (Eq.refl (nI 940)).trans (Eq.refl _)
theorem li_1103515245 : (1103515245 : Int32) = nI 1103515245 := (Eq.refl (nI 1103515245)).trans (Eq.refl _)
theorem li_12345 : (12345 : Int32) = nI 12345 := (Eq.refl (nI 12345)).trans (Eq.refl _)
theorem lL_0 : (0 : Int64) = lN 0 := (Eq.refl (lN 0)).trans (Eq.refl _)
theorem lL_1 : (1 : Int64) = lN 1 := (Eq.refl (lN 1)).trans (Eq.refl _)
theorem lL_255 : (255 : Int64) = lN 255 := (Eq.refl (lN 255)).trans (Eq.refl _)
theorem lL_1099511627776 : (1099511627776 : Int64) = lN 1099511627776 := (Eq.refl (lN 1099511627776)).trans (Eq.refl _)
theorem lL_1000000000000000 : (1000000000000000 : Int64) = lN 1000000000000000 := (Eq.refl (lN 1000000000000000)).trans (Eq.refl _)
theorem sq1 {A1 β : Type} {F : (A1 → Option β) → A1 → Option β} {r : Option β} {b1 : A1} (n : Nat) (a1 : Nat → A1) (hx : ∀ self, F self (a1 n) = r) (hs : ∀ self i, i < n → F self (a1 i) = self (a1 (i + 1))) (hn : n ≤ 1000000000) (e1 : a1 0 = b1) : itr1 F N0 b1 = r := by
  have key : ∀ m i N, i + m = n → m < N → itr1 F N (a1 i) = r := by
    intro m
    induction m with
    | zero =>
      intro i N h1 h2
      obtain ⟨N, rfl⟩ : ∃ q, N = q + 1 := ⟨N - 1, by omega⟩
      have : i = n := by omega
      subst this
      exact hx _
    | succ m ih =>
      intro i N h1 h2
      obtain ⟨N, rfl⟩ : ∃ q, N = q + 1 := ⟨N - 1, by omega⟩
      exact (hs (itr1 F N) i (by omega)).trans (ih (i + 1) N (by omega) (by omega))
  have := key n 0 N0 (by omega) (by have := N0_big; omega)
  rw [e1] at this
  exact this
theorem sq2 {A1 A2 β : Type} {F : (A1 → A2 → Option β) → A1 → A2 → Option β} {r : Option β} {b1 : A1} {b2 : A2} (n : Nat) (a1 : Nat → A1) (a2 : Nat → A2) (hx : ∀ self, F self (a1 n) (a2 n) = r) (hs : ∀ self i, i < n → F self (a1 i) (a2 i) = self (a1 (i + 1)) (a2 (i + 1))) (hn : n ≤ 1000000000) (e1 : a1 0 = b1) (e2 : a2 0 = b2) : itr2 F N0 b1 b2 = r := by
  have key : ∀ m i N, i + m = n → m < N → itr2 F N (a1 i) (a2 i) = r := by
    intro m
    induction m with
    | zero =>
      intro i N h1 h2
      obtain ⟨N, rfl⟩ : ∃ q, N = q + 1 := ⟨N - 1, by omega⟩
      have : i = n := by omega
      subst this
      exact hx _
    | succ m ih =>
      intro i N h1 h2
      obtain ⟨N, rfl⟩ : ∃ q, N = q + 1 := ⟨N - 1, by omega⟩
      exact (hs (itr2 F N) i (by omega)).trans (ih (i + 1) N (by omega) (by omega))
  have := key n 0 N0 (by omega) (by have := N0_big; omega)
  rw [e1, e2] at this
  exact this
theorem sq3 {A1 A2 A3 β : Type} {F : (A1 → A2 → A3 → Option β) → A1 → A2 → A3 → Option β} {r : Option β} {b1 : A1} {b2 : A2} {b3 : A3} (n : Nat) (a1 : Nat → A1) (a2 : Nat → A2) (a3 : Nat → A3) (hx : ∀ self, F self (a1 n) (a2 n) (a3 n) = r) (hs : ∀ self i, i < n → F self (a1 i) (a2 i) (a3 i) = self (a1 (i + 1)) (a2 (i + 1)) (a3 (i + 1))) (hn : n ≤ 1000000000) (e1 : a1 0 = b1) (e2 : a2 0 = b2) (e3 : a3 0 = b3) : itr3 F N0 b1 b2 b3 = r := by
  have key : ∀ m i N, i + m = n → m < N → itr3 F N (a1 i) (a2 i) (a3 i) = r := by
    intro m
    induction m with
    | zero =>
      intro i N h1 h2
      obtain ⟨N, rfl⟩ : ∃ q, N = q + 1 := ⟨N - 1, by omega⟩
      have : i = n := by omega
      subst this
      exact hx _
    | succ m ih =>
      intro i N h1 h2
      obtain ⟨N, rfl⟩ : ∃ q, N = q + 1 := ⟨N - 1, by omega⟩
      exact (hs (itr3 F N) i (by omega)).trans (ih (i + 1) N (by omega) (by omega))
  have := key n 0 N0 (by omega) (by have := N0_big; omega)
  rw [e1, e2, e3] at this
  exact this
theorem sq4 {A1 A2 A3 A4 β : Type} {F : (A1 → A2 → A3 → A4 → Option β) → A1 → A2 → A3 → A4 → Option β} {r : Option β} {b1 : A1} {b2 : A2} {b3 : A3} {b4 : A4} (n : Nat) (a1 : Nat → A1) (a2 : Nat → A2) (a3 : Nat → A3) (a4 : Nat → A4) (hx : ∀ self, F self (a1 n) (a2 n) (a3 n) (a4 n) = r) (hs : ∀ self i, i < n → F self (a1 i) (a2 i) (a3 i) (a4 i) = self (a1 (i + 1)) (a2 (i + 1)) (a3 (i + 1)) (a4 (i + 1))) (hn : n ≤ 1000000000) (e1 : a1 0 = b1) (e2 : a2 0 = b2) (e3 : a3 0 = b3) (e4 : a4 0 = b4) : itr4 F N0 b1 b2 b3 b4 = r := by
  have key : ∀ m i N, i + m = n → m < N → itr4 F N (a1 i) (a2 i) (a3 i) (a4 i) = r := by
    intro m
    induction m with
    | zero =>
      intro i N h1 h2
      obtain ⟨N, rfl⟩ : ∃ q, N = q + 1 := ⟨N - 1, by omega⟩
      have : i = n := by omega
      subst this
      exact hx _
    | succ m ih =>
      intro i N h1 h2
      obtain ⟨N, rfl⟩ : ∃ q, N = q + 1 := ⟨N - 1, by omega⟩
      exact (hs (itr4 F N) i (by omega)).trans (ih (i + 1) N (by omega) (by omega))
  have := key n 0 N0 (by omega) (by have := N0_big; omega)
  rw [e1, e2, e3, e4] at this
  exact this
theorem sq5 {A1 A2 A3 A4 A5 β : Type} {F : (A1 → A2 → A3 → A4 → A5 → Option β) → A1 → A2 → A3 → A4 → A5 → Option β} {r : Option β} {b1 : A1} {b2 : A2} {b3 : A3} {b4 : A4} {b5 : A5} (n : Nat) (a1 : Nat → A1) (a2 : Nat → A2) (a3 : Nat → A3) (a4 : Nat → A4) (a5 : Nat → A5) (hx : ∀ self, F self (a1 n) (a2 n) (a3 n) (a4 n) (a5 n) = r) (hs : ∀ self i, i < n → F self (a1 i) (a2 i) (a3 i) (a4 i) (a5 i) = self (a1 (i + 1)) (a2 (i + 1)) (a3 (i + 1)) (a4 (i + 1)) (a5 (i + 1))) (hn : n ≤ 1000000000) (e1 : a1 0 = b1) (e2 : a2 0 = b2) (e3 : a3 0 = b3) (e4 : a4 0 = b4) (e5 : a5 0 = b5) : itr5 F N0 b1 b2 b3 b4 b5 = r := by
  have key : ∀ m i N, i + m = n → m < N → itr5 F N (a1 i) (a2 i) (a3 i) (a4 i) (a5 i) = r := by
    intro m
    induction m with
    | zero =>
      intro i N h1 h2
      obtain ⟨N, rfl⟩ : ∃ q, N = q + 1 := ⟨N - 1, by omega⟩
      have : i = n := by omega
      subst this
      exact hx _
    | succ m ih =>
      intro i N h1 h2
      obtain ⟨N, rfl⟩ : ∃ q, N = q + 1 := ⟨N - 1, by omega⟩
      exact (hs (itr5 F N) i (by omega)).trans (ih (i + 1) N (by omega) (by omega))
  have := key n 0 N0 (by omega) (by have := N0_big; omega)
  rw [e1, e2, e3, e4, e5] at this
  exact this
theorem sq6 {A1 A2 A3 A4 A5 A6 β : Type} {F : (A1 → A2 → A3 → A4 → A5 → A6 → Option β) → A1 → A2 → A3 → A4 → A5 → A6 → Option β} {r : Option β} {b1 : A1} {b2 : A2} {b3 : A3} {b4 : A4} {b5 : A5} {b6 : A6} (n : Nat) (a1 : Nat → A1) (a2 : Nat → A2) (a3 : Nat → A3) (a4 : Nat → A4) (a5 : Nat → A5) (a6 : Nat → A6) (hx : ∀ self, F self (a1 n) (a2 n) (a3 n) (a4 n) (a5 n) (a6 n) = r) (hs : ∀ self i, i < n → F self (a1 i) (a2 i) (a3 i) (a4 i) (a5 i) (a6 i) = self (a1 (i + 1)) (a2 (i + 1)) (a3 (i + 1)) (a4 (i + 1)) (a5 (i + 1)) (a6 (i + 1))) (hn : n ≤ 1000000000) (e1 : a1 0 = b1) (e2 : a2 0 = b2) (e3 : a3 0 = b3) (e4 : a4 0 = b4) (e5 : a5 0 = b5) (e6 : a6 0 = b6) : itr6 F N0 b1 b2 b3 b4 b5 b6 = r := by
  have key : ∀ m i N, i + m = n → m < N → itr6 F N (a1 i) (a2 i) (a3 i) (a4 i) (a5 i) (a6 i) = r := by
    intro m
    induction m with
    | zero =>
      intro i N h1 h2
      obtain ⟨N, rfl⟩ : ∃ q, N = q + 1 := ⟨N - 1, by omega⟩
      have : i = n := by omega
      subst this
      exact hx _
    | succ m ih =>
      intro i N h1 h2
      obtain ⟨N, rfl⟩ : ∃ q, N = q + 1 := ⟨N - 1, by omega⟩
      exact (hs (itr6 F N) i (by omega)).trans (ih (i + 1) N (by omega) (by omega))
  have := key n 0 N0 (by omega) (by have := N0_big; omega)
  rw [e1, e2, e3, e4, e5, e6] at this
  exact this
theorem sq7 {A1 A2 A3 A4 A5 A6 A7 β : Type} {F : (A1 → A2 → A3 → A4 → A5 → A6 → A7 → Option β) → A1 → A2 → A3 → A4 → A5 → A6 → A7 → Option β} {r : Option β} {b1 : A1} {b2 : A2} {b3 : A3} {b4 : A4} {b5 : A5} {b6 : A6} {b7 : A7} (n : Nat) (a1 : Nat → A1) (a2 : Nat → A2) (a3 : Nat → A3) (a4 : Nat → A4) (a5 : Nat → A5) (a6 : Nat → A6) (a7 : Nat → A7) (hx : ∀ self, F self (a1 n) (a2 n) (a3 n) (a4 n) (a5 n) (a6 n) (a7 n) = r) (hs : ∀ self i, i < n → F self (a1 i) (a2 i) (a3 i) (a4 i) (a5 i) (a6 i) (a7 i) = self (a1 (i + 1)) (a2 (i + 1)) (a3 (i + 1)) (a4 (i + 1)) (a5 (i + 1)) (a6 (i + 1)) (a7 (i + 1))) (hn : n ≤ 1000000000) (e1 : a1 0 = b1) (e2 : a2 0 = b2) (e3 : a3 0 = b3) (e4 : a4 0 = b4) (e5 : a5 0 = b5) (e6 : a6 0 = b6) (e7 : a7 0 = b7) : itr7 F N0 b1 b2 b3 b4 b5 b6 b7 = r := by
  have key : ∀ m i N, i + m = n → m < N → itr7 F N (a1 i) (a2 i) (a3 i) (a4 i) (a5 i) (a6 i) (a7 i) = r := by
    intro m
    induction m with
    | zero =>
      intro i N h1 h2
      obtain ⟨N, rfl⟩ : ∃ q, N = q + 1 := ⟨N - 1, by omega⟩
      have : i = n := by omega
      subst this
      exact hx _
    | succ m ih =>
      intro i N h1 h2
      obtain ⟨N, rfl⟩ : ∃ q, N = q + 1 := ⟨N - 1, by omega⟩
      exact (hs (itr7 F N) i (by omega)).trans (ih (i + 1) N (by omega) (by omega))
  have := key n 0 N0 (by omega) (by have := N0_big; omega)
  rw [e1, e2, e3, e4, e5, e6, e7] at this
  exact this
theorem sq8 {A1 A2 A3 A4 A5 A6 A7 A8 β : Type} {F : (A1 → A2 → A3 → A4 → A5 → A6 → A7 → A8 → Option β) → A1 → A2 → A3 → A4 → A5 → A6 → A7 → A8 → Option β} {r : Option β} {b1 : A1} {b2 : A2} {b3 : A3} {b4 : A4} {b5 : A5} {b6 : A6} {b7 : A7} {b8 : A8} (n : Nat) (a1 : Nat → A1) (a2 : Nat → A2) (a3 : Nat → A3) (a4 : Nat → A4) (a5 : Nat → A5) (a6 : Nat → A6) (a7 : Nat → A7) (a8 : Nat → A8) (hx : ∀ self, F self (a1 n) (a2 n) (a3 n) (a4 n) (a5 n) (a6 n) (a7 n) (a8 n) = r) (hs : ∀ self i, i < n → F self (a1 i) (a2 i) (a3 i) (a4 i) (a5 i) (a6 i) (a7 i) (a8 i) = self (a1 (i + 1)) (a2 (i + 1)) (a3 (i + 1)) (a4 (i + 1)) (a5 (i + 1)) (a6 (i + 1)) (a7 (i + 1)) (a8 (i + 1))) (hn : n ≤ 1000000000) (e1 : a1 0 = b1) (e2 : a2 0 = b2) (e3 : a3 0 = b3) (e4 : a4 0 = b4) (e5 : a5 0 = b5) (e6 : a6 0 = b6) (e7 : a7 0 = b7) (e8 : a8 0 = b8) : itr8 F N0 b1 b2 b3 b4 b5 b6 b7 b8 = r := by
  have key : ∀ m i N, i + m = n → m < N → itr8 F N (a1 i) (a2 i) (a3 i) (a4 i) (a5 i) (a6 i) (a7 i) (a8 i) = r := by
    intro m
    induction m with
    | zero =>
      intro i N h1 h2
      obtain ⟨N, rfl⟩ : ∃ q, N = q + 1 := ⟨N - 1, by omega⟩
      have : i = n := by omega
      subst this
      exact hx _
    | succ m ih =>
      intro i N h1 h2
      obtain ⟨N, rfl⟩ : ∃ q, N = q + 1 := ⟨N - 1, by omega⟩
      exact (hs (itr8 F N) i (by omega)).trans (ih (i + 1) N (by omega) (by omega))
  have := key n 0 N0 (by omega) (by have := N0_big; omega)
  rw [e1, e2, e3, e4, e5, e6, e7, e8] at this
  exact this
theorem sq9 {A1 A2 A3 A4 A5 A6 A7 A8 A9 β : Type} {F : (A1 → A2 → A3 → A4 → A5 → A6 → A7 → A8 → A9 → Option β) → A1 → A2 → A3 → A4 → A5 → A6 → A7 → A8 → A9 → Option β} {r : Option β} {b1 : A1} {b2 : A2} {b3 : A3} {b4 : A4} {b5 : A5} {b6 : A6} {b7 : A7} {b8 : A8} {b9 : A9} (n : Nat) (a1 : Nat → A1) (a2 : Nat → A2) (a3 : Nat → A3) (a4 : Nat → A4) (a5 : Nat → A5) (a6 : Nat → A6) (a7 : Nat → A7) (a8 : Nat → A8) (a9 : Nat → A9) (hx : ∀ self, F self (a1 n) (a2 n) (a3 n) (a4 n) (a5 n) (a6 n) (a7 n) (a8 n) (a9 n) = r) (hs : ∀ self i, i < n → F self (a1 i) (a2 i) (a3 i) (a4 i) (a5 i) (a6 i) (a7 i) (a8 i) (a9 i) = self (a1 (i + 1)) (a2 (i + 1)) (a3 (i + 1)) (a4 (i + 1)) (a5 (i + 1)) (a6 (i + 1)) (a7 (i + 1)) (a8 (i + 1)) (a9 (i + 1))) (hn : n ≤ 1000000000) (e1 : a1 0 = b1) (e2 : a2 0 = b2) (e3 : a3 0 = b3) (e4 : a4 0 = b4) (e5 : a5 0 = b5) (e6 : a6 0 = b6) (e7 : a7 0 = b7) (e8 : a8 0 = b8) (e9 : a9 0 = b9) : itr9 F N0 b1 b2 b3 b4 b5 b6 b7 b8 b9 = r := by
  have key : ∀ m i N, i + m = n → m < N → itr9 F N (a1 i) (a2 i) (a3 i) (a4 i) (a5 i) (a6 i) (a7 i) (a8 i) (a9 i) = r := by
    intro m
    induction m with
    | zero =>
      intro i N h1 h2
      obtain ⟨N, rfl⟩ : ∃ q, N = q + 1 := ⟨N - 1, by omega⟩
      have : i = n := by omega
      subst this
      exact hx _
    | succ m ih =>
      intro i N h1 h2
      obtain ⟨N, rfl⟩ : ∃ q, N = q + 1 := ⟨N - 1, by omega⟩
      exact (hs (itr9 F N) i (by omega)).trans (ih (i + 1) N (by omega) (by omega))
  have := key n 0 N0 (by omega) (by have := N0_big; omega)
  rw [e1, e2, e3, e4, e5, e6, e7, e8, e9] at this
  exact this
theorem sq10 {A1 A2 A3 A4 A5 A6 A7 A8 A9 A10 β : Type} {F : (A1 → A2 → A3 → A4 → A5 → A6 → A7 → A8 → A9 → A10 → Option β) → A1 → A2 → A3 → A4 → A5 → A6 → A7 → A8 → A9 → A10 → Option β} {r : Option β} {b1 : A1} {b2 : A2} {b3 : A3} {b4 : A4} {b5 : A5} {b6 : A6} {b7 : A7} {b8 : A8} {b9 : A9} {b10 : A10} (n : Nat) (a1 : Nat → A1) (a2 : Nat → A2) (a3 : Nat → A3) (a4 : Nat → A4) (a5 : Nat → A5) (a6 : Nat → A6) (a7 : Nat → A7) (a8 : Nat → A8) (a9 : Nat → A9) (a10 : Nat → A10) (hx : ∀ self, F self (a1 n) (a2 n) (a3 n) (a4 n) (a5 n) (a6 n) (a7 n) (a8 n) (a9 n) (a10 n) = r) (hs : ∀ self i, i < n → F self (a1 i) (a2 i) (a3 i) (a4 i) (a5 i) (a6 i) (a7 i) (a8 i) (a9 i) (a10 i) = self (a1 (i + 1)) (a2 (i + 1)) (a3 (i + 1)) (a4 (i + 1)) (a5 (i + 1)) (a6 (i + 1)) (a7 (i + 1)) (a8 (i + 1)) (a9 (i + 1)) (a10 (i + 1))) (hn : n ≤ 1000000000) (e1 : a1 0 = b1) (e2 : a2 0 = b2) (e3 : a3 0 = b3) (e4 : a4 0 = b4) (e5 : a5 0 = b5) (e6 : a6 0 = b6) (e7 : a7 0 = b7) (e8 : a8 0 = b8) (e9 : a9 0 = b9) (e10 : a10 0 = b10) : itr10 F N0 b1 b2 b3 b4 b5 b6 b7 b8 b9 b10 = r := by
  have key : ∀ m i N, i + m = n → m < N → itr10 F N (a1 i) (a2 i) (a3 i) (a4 i) (a5 i) (a6 i) (a7 i) (a8 i) (a9 i) (a10 i) = r := by
    intro m
    induction m with
    | zero =>
      intro i N h1 h2
      obtain ⟨N, rfl⟩ : ∃ q, N = q + 1 := ⟨N - 1, by omega⟩
      have : i = n := by omega
      subst this
      exact hx _
    | succ m ih =>
      intro i N h1 h2
      obtain ⟨N, rfl⟩ : ∃ q, N = q + 1 := ⟨N - 1, by omega⟩
      exact (hs (itr10 F N) i (by omega)).trans (ih (i + 1) N (by omega) (by omega))
  have := key n 0 N0 (by omega) (by have := N0_big; omega)
  rw [e1, e2, e3, e4, e5, e6, e7, e8, e9, e10] at this
  exact this
