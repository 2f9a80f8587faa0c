/-! ===== reading: states, steps, meanings ===== -/
section CORE
variable {σ : Nat → Nat} {nm : Nat → List Nat} {h : Hp}
def stk (e r b p : Nat) : Bool := decide (0 < b) && decide (b ≤ p) && decide ((p - b) % e < r)
theorem c_strikes {x0 b p e r : Nat} (he : h.1 x0 0 = nI e) (hr : h.1 x0 1 = nI r) (e0 : 0 < e) (e1 : e < 1000) (r1 : r < 1000) (b1 : b < 1000) (p1 : p < 1000) : f_X1_strikes x0 (nI b) (nI p) h = some (nI (stk e r b p).toNat, h) := by
  have hm := Nat.mod_lt (p - b) e0
  unfold f_X1_strikes stk
  by_cases h1 : 0 < b
  · by_cases h2 : b ≤ p
    · by_cases h3 : (p - b) % e < r
      · simp (disch := omega) only [li_0, li_1, li_2, li_3, li_4, li_5, li_6, li_7, li_8, li_9, li_10, li_12, li_13, li_14, li_15, li_16, li_20, li_24, li_25, li_31, li_32, li_40, li_48, li_54, li_56, li_64, li_72, li_97, li_99, li_100, li_112, li_122, li_144, li_145, li_155, li_157, li_200, li_216, li_255, li_256, li_432, li_437, li_438, li_462, li_463, li_713, li_900, li_940, lL_0, lL_1, lL_255, lL_1099511627776, neg_1, ltT, ltF, leT, leF, eqT, eqF, ltMT, ltMF, leMT, leMF, eqMF, eqMF', addM, inbT, clp, nI_add, subN, pk_mul, nzT, remN, shl1, bitN, bit0, bit1, lcE, lcLE, lcLT, LleT, LleF, LltT, LltF, LeqT, LeqF, ↓bndS, ↓bnvS, ↓lt_s1, bndS, bnvS, eq_self, ↓reduceIte, he, hr]
        simp [h1, h2, h3]
      · simp (disch := omega) only [li_0, li_1, li_2, li_3, li_4, li_5, li_6, li_7, li_8, li_9, li_10, li_12, li_13, li_14, li_15, li_16, li_20, li_24, li_25, li_31, li_32, li_40, li_48, li_54, li_56, li_64, li_72, li_97, li_99, li_100, li_112, li_122, li_144, li_145, li_155, li_157, li_200, li_216, li_255, li_256, li_432, li_437, li_438, li_462, li_463, li_713, li_900, li_940, lL_0, lL_1, lL_255, lL_1099511627776, neg_1, ltT, ltF, leT, leF, eqT, eqF, ltMT, ltMF, leMT, leMF, eqMF, eqMF', addM, inbT, clp, nI_add, subN, pk_mul, nzT, remN, shl1, bitN, bit0, bit1, lcE, lcLE, lcLT, LleT, LleF, LltT, LltF, LeqT, LeqF, ↓bndS, ↓bnvS, ↓lt_s1, bndS, bnvS, eq_self, ↓reduceIte, he, hr]
        simp [h1, h2, h3]
    · simp (disch := omega) only [li_0, li_1, li_2, li_3, li_4, li_5, li_6, li_7, li_8, li_9, li_10, li_12, li_13, li_14, li_15, li_16, li_20, li_24, li_25, li_31, li_32, li_40, li_48, li_54, li_56, li_64, li_72, li_97, li_99, li_100, li_112, li_122, li_144, li_145, li_155, li_157, li_200, li_216, li_255, li_256, li_432, li_437, li_438, li_462, li_463, li_713, li_900, li_940, lL_0, lL_1, lL_255, lL_1099511627776, neg_1, ltT, ltF, leT, leF, eqT, eqF, ltMT, ltMF, leMT, leMF, eqMF, eqMF', addM, inbT, clp, nI_add, subN, pk_mul, nzT, remN, shl1, bitN, bit0, bit1, lcE, lcLE, lcLT, LleT, LleF, LltT, LltF, LeqT, LeqF, ↓bndS, ↓bnvS, ↓lt_s1, bndS, bnvS, eq_self, ↓reduceIte, he, hr]
      simp [h1, h2]
  · simp (disch := omega) only [li_0, li_1, li_2, li_3, li_4, li_5, li_6, li_7, li_8, li_9, li_10, li_12, li_13, li_14, li_15, li_16, li_20, li_24, li_25, li_31, li_32, li_40, li_48, li_54, li_56, li_64, li_72, li_97, li_99, li_100, li_112, li_122, li_144, li_145, li_155, li_157, li_200, li_216, li_255, li_256, li_432, li_437, li_438, li_462, li_463, li_713, li_900, li_940, lL_0, lL_1, lL_255, lL_1099511627776, neg_1, ltT, ltF, leT, leF, eqT, eqF, ltMT, ltMF, leMT, leMF, eqMF, eqMF', addM, inbT, clp, nI_add, subN, pk_mul, nzT, remN, shl1, bitN, bit0, bit1, lcE, lcLE, lcLT, LleT, LleF, LltT, LltF, LeqT, LeqF, ↓bndS, ↓bnvS, ↓lt_s1, bndS, bnvS, eq_self, ↓reduceIte, he, hr]
    simp [h1]
theorem m_isStruck {b p e r : Nat} (he : h.1 155 25 = nI e) (hr : h.1 155 26 = nI r) (e0 : 0 < e) (e1 : e < 1000) (r1 : r < 1000) (b1 : b < 1000) (p1 : p < 1000) : f_X13_isStruck (nI b) (nI p) h = some (nI (stk e r b p).toNat, h) := by
  have hm := Nat.mod_lt (p - b) e0
  unfold f_X13_isStruck stk
  by_cases h1 : 0 < b
  · by_cases h2 : b ≤ p
    · by_cases h3 : (p - b) % e < r
      · simp (disch := omega) only [li_0, li_1, li_2, li_3, li_4, li_5, li_6, li_7, li_8, li_9, li_10, li_12, li_13, li_14, li_15, li_16, li_20, li_24, li_25, li_31, li_32, li_40, li_48, li_54, li_56, li_64, li_72, li_97, li_99, li_100, li_112, li_122, li_144, li_145, li_155, li_157, li_200, li_216, li_255, li_256, li_432, li_437, li_438, li_462, li_463, li_713, li_900, li_940, lL_0, lL_1, lL_255, lL_1099511627776, neg_1, ltT, ltF, leT, leF, eqT, eqF, ltMT, ltMF, leMT, leMF, eqMF, eqMF', addM, inbT, clp, nI_add, subN, pk_mul, nzT, remN, shl1, bitN, bit0, bit1, lcE, lcLE, lcLT, LleT, LleF, LltT, LltF, LeqT, LeqF, ↓bndS, ↓bnvS, ↓lt_s1, bndS, bnvS, eq_self, ↓reduceIte, he, hr]
        simp [h1, h2, h3]
      · simp (disch := omega) only [li_0, li_1, li_2, li_3, li_4, li_5, li_6, li_7, li_8, li_9, li_10, li_12, li_13, li_14, li_15, li_16, li_20, li_24, li_25, li_31, li_32, li_40, li_48, li_54, li_56, li_64, li_72, li_97, li_99, li_100, li_112, li_122, li_144, li_145, li_155, li_157, li_200, li_216, li_255, li_256, li_432, li_437, li_438, li_462, li_463, li_713, li_900, li_940, lL_0, lL_1, lL_255, lL_1099511627776, neg_1, ltT, ltF, leT, leF, eqT, eqF, ltMT, ltMF, leMT, leMF, eqMF, eqMF', addM, inbT, clp, nI_add, subN, pk_mul, nzT, remN, shl1, bitN, bit0, bit1, lcE, lcLE, lcLT, LleT, LleF, LltT, LltF, LeqT, LeqF, ↓bndS, ↓bnvS, ↓lt_s1, bndS, bnvS, eq_self, ↓reduceIte, he, hr]
        simp [h1, h2, h3]
    · simp (disch := omega) only [li_0, li_1, li_2, li_3, li_4, li_5, li_6, li_7, li_8, li_9, li_10, li_12, li_13, li_14, li_15, li_16, li_20, li_24, li_25, li_31, li_32, li_40, li_48, li_54, li_56, li_64, li_72, li_97, li_99, li_100, li_112, li_122, li_144, li_145, li_155, li_157, li_200, li_216, li_255, li_256, li_432, li_437, li_438, li_462, li_463, li_713, li_900, li_940, lL_0, lL_1, lL_255, lL_1099511627776, neg_1, ltT, ltF, leT, leF, eqT, eqF, ltMT, ltMF, leMT, leMF, eqMF, eqMF', addM, inbT, clp, nI_add, subN, pk_mul, nzT, remN, shl1, bitN, bit0, bit1, lcE, lcLE, lcLT, LleT, LleF, LltT, LltF, LeqT, LeqF, ↓bndS, ↓bnvS, ↓lt_s1, bndS, bnvS, eq_self, ↓reduceIte, he, hr]
      simp [h1, h2]
  · simp (disch := omega) only [li_0, li_1, li_2, li_3, li_4, li_5, li_6, li_7, li_8, li_9, li_10, li_12, li_13, li_14, li_15, li_16, li_20, li_24, li_25, li_31, li_32, li_40, li_48, li_54, li_56, li_64, li_72, li_97, li_99, li_100, li_112, li_122, li_144, li_145, li_155, li_157, li_200, li_216, li_255, li_256, li_432, li_437, li_438, li_462, li_463, li_713, li_900, li_940, lL_0, lL_1, lL_255, lL_1099511627776, neg_1, ltT, ltF, leT, leF, eqT, eqF, ltMT, ltMF, leMT, leMF, eqMF, eqMF', addM, inbT, clp, nI_add, subN, pk_mul, nzT, remN, shl1, bitN, bit0, bit1, lcE, lcLE, lcLT, LleT, LleF, LltT, LltF, LeqT, LeqF, ↓bndS, ↓bnvS, ↓lt_s1, bndS, bnvS, eq_self, ↓reduceIte, he, hr]
    simp [h1]
/-- what is left of a row of n -/
def lf (st : Nat → Bool) (f : Nat → Nat) : Nat → List Nat
  | 0 => []
  | n + 1 => lf st f n ++ (if st (n + 1) then [] else [f n])
theorem lf_len (st : Nat → Bool) (f : Nat → Nat) : ∀ n, (lf st f n).length ≤ n
  | 0 => Nat.le_refl 0
  | n + 1 => by
    have := lf_len st f n
    unfold lf
    by_cases h : st (n + 1) = true
    · rw [if_pos h, List.append_nil]; omega
    · rw [if_neg h, List.length_append, List.length_singleton]; omega
theorem lf_mem (st : Nat → Bool) (f : Nat → Nat) {P : Nat → Prop} : ∀ n, (∀ i, i < n → P (f i)) → ∀ x ∈ lf st f n, P x
  | 0, _, x, hx => by cases hx
  | n + 1, hf, x, hx => by
    unfold lf at hx
    rcases List.mem_append.mp hx with h1 | h1
    · exact lf_mem st f n (fun i hi => hf i (by omega)) x h1
    · by_cases h : st (n + 1) = true
      · rw [if_pos h] at h1; cases h1
      · rw [if_neg h] at h1
        rw [List.mem_singleton.mp h1]
        exact hf n (by omega)
theorem lf_cong (st : Nat → Bool) {f g : Nat → Nat} : ∀ n, (∀ i, i < n → f i = g i) → lf st f n = lf st g n
  | 0, _ => rfl
  | n + 1, hf => by
    unfold lf
    rw [lf_cong st n (fun i hi => hf i (by omega)), hf n (by omega)]
/-! bytes -/
def byo (x o : Nat) : Nat := x / 2 ^ (8 * o) % 256
theorem byo_lt (x o : Nat) : byo x o < 256 := Nat.mod_lt _ (by decide)
theorem byo_bit (x o i : Nat) : (byo x o).testBit i = (decide (i < 8) && x.testBit (8 * o + i)) := by
  unfold byo
  rw [show (256 : Nat) = 2 ^ 8 from rfl, Nat.testBit_mod_two_pow, Nat.testBit_div_two_pow, Nat.add_comm]
theorem byo_and (x y o : Nat) : byo (x &&& y) o = byo x o &&& byo y o := by
  apply Nat.eq_of_testBit_eq
  intro i
  rw [Nat.testBit_and, byo_bit, byo_bit, byo_bit, Nat.testBit_and]
  cases decide (i < 8) <;> simp
def anyN (x : Nat) : Nat := (((x ||| x / 2 ^ 32) ||| (x ||| x / 2 ^ 32) / 2 ^ 16) ||| ((x ||| x / 2 ^ 32) ||| (x ||| x / 2 ^ 32) / 2 ^ 16) / 2 ^ 8) % 256
theorem anyN_b (x : Nat) : anyN x = byo x 0 ||| byo x 1 ||| byo x 2 ||| byo x 3 ||| byo x 4 ||| byo x 5 ||| byo x 6 ||| byo x 7 := by
  apply Nat.eq_of_testBit_eq
  intro i
  unfold anyN
  rw [show (256 : Nat) = 2 ^ 8 from rfl]
  simp only [Nat.testBit_or, Nat.testBit_mod_two_pow, Nat.testBit_div_two_pow, byo_bit]
  by_cases hi : i < 8
  · simp only [hi, decide_true, Bool.true_and]
    rw [show 8 * 0 + i = i by omega, show i + 8 = 8 * 1 + i by omega, show i + 16 = 8 * 2 + i by omega, show 8 * 1 + i + 16 = 8 * 3 + i by omega, show i + 32 = 8 * 4 + i by omega, show 8 * 1 + i + 32 = 8 * 5 + i by omega, show 8 * 2 + i + 32 = 8 * 6 + i by omega, show 8 * 3 + i + 32 = 8 * 7 + i by omega]
    ac_rfl
  · simp only [hi, decide_false, Bool.false_and, Bool.or_false]
theorem or_lt {a b n : Nat} (ha : a < 2 ^ n) (hb : b < 2 ^ n) : a ||| b < 2 ^ n := Nat.or_lt_two_pow ha hb
theorem c_anyOf {x : Nat} (hx : x < 18446744073709551616) : f_X10_anyOf (lN x) h = some (nI (anyN x), h) := by
  unfold f_X10_anyOf anyN
  have d1 : x / 2 ^ 32 < 2 ^ 64 := Nat.lt_of_le_of_lt (Nat.div_le_self _ _) (by omega)
  have o1 := or_lt (a := x) (n := 64) (by omega) d1
  have d2 : (x ||| x / 2 ^ 32) / 2 ^ 16 < 2 ^ 64 := Nat.lt_of_le_of_lt (Nat.div_le_self _ _) o1
  have o2 := or_lt (n := 64) o1 d2
  have d3 : ((x ||| x / 2 ^ 32) ||| (x ||| x / 2 ^ 32) / 2 ^ 16) / 2 ^ 8 < 2 ^ 64 := Nat.lt_of_le_of_lt (Nat.div_le_self _ _) o2
  have o3 := or_lt (n := 64) o2 d3
  rw [lt_s0, lt_s0, lt_s0, li_32, li_16, li_8, Lushr hx (by decide), wb_or (by omega) d1, Lushr o1 (by decide), wb_or o1 d2, Lushr o2 (by decide), wb_or o2 d3, LtoI]
  generalize ((x ||| x / 2 ^ 32) ||| (x ||| x / 2 ^ 32) / 2 ^ 16) ||| ((x ||| x / 2 ^ 32) ||| (x ||| x / 2 ^ 32) / 2 ^ 16) / 2 ^ 8 = q
  have e : nI q &&& 255 = nI (q % 256) := by
    rw [li_255, fa_and, show 255 = 2 ^ 8 - 1 from rfl, Nat.and_two_pow_sub_one_eq_mod]
  rw [e]
/-- the union of n sets -/
def ors (f : Nat → Nat) : Nat → Nat
  | 0 => 0
  | n + 1 => ors f n ||| f n
theorem ors_lt {f : Nat → Nat} {k : Nat} : ∀ n, (∀ i, i < n → f i < 2 ^ k) → ors f n < 2 ^ k
  | 0, _ => Nat.two_pow_pos k
  | n + 1, hf => Nat.or_lt_two_pow (ors_lt n (fun i hi => hf i (by omega))) (hf n (by omega))
theorem ors_cong {f g : Nat → Nat} : ∀ n, (∀ i, i < n → f i = g i) → ors f n = ors g n
  | 0, _ => rfl
  | n + 1, hf => by
    unfold ors
    rw [ors_cong n (fun i hi => hf i (by omega)), hf n (by omega)]
theorem ors_zero {f : Nat → Nat} (n : Nat) : ∀ m, n ≤ m → (∀ i, n ≤ i → i < m → f i = 0) → ors f m = ors f n
  | 0, h1, _ => by rw [show n = 0 by omega]
  | m + 1, h1, h2 => by
    by_cases h3 : n = m + 1
    · rw [h3]
    · show ors f m ||| f m = _
      rw [ors_zero n m (by omega) (fun i a b => h2 i a (by omega)), h2 m (by omega) (by omega), Nat.or_zero]
/-- numbers of 8 bits, one behind the other -/
def pk8 (f : Nat → Nat) : Nat → Nat
  | 0 => 0
  | n + 1 => pk8 f n + f n * 2 ^ (8 * n)
theorem pk8_lt {f : Nat → Nat} : ∀ n, (∀ i, i < n → f i < 256) → pk8 f n < 2 ^ (8 * n)
  | 0, _ => by show 0 < 2 ^ (8 * 0); decide
  | n + 1, hf => by
    have h1 := pk8_lt n (fun i hi => hf i (by omega))
    have h2 := hf n (by omega)
    unfold pk8
    rw [show 8 * (n + 1) = 8 * n + 8 by omega, Nat.pow_add]
    generalize 2 ^ (8 * n) = p at *
    have : f n * p ≤ 255 * p := Nat.mul_le_mul_right p (by omega)
    show _ < p * 256
    omega
theorem pk8_zero {f : Nat → Nat} (n : Nat) : ∀ m, n ≤ m → (∀ i, n ≤ i → i < m → f i = 0) → pk8 f m = pk8 f n
  | 0, h1, _ => by rw [show n = 0 by omega]
  | m + 1, h1, h2 => by
    by_cases h3 : n = m + 1
    · rw [h3]
    · show pk8 f m + f m * 2 ^ (8 * m) = _
      rw [pk8_zero n m (by omega) (fun i a b => h2 i a (by omega)), h2 m (by omega) (by omega), Nat.zero_mul, Nat.add_zero]
theorem pk8_cong {f g : Nat → Nat} : ∀ n, (∀ i, i < n → f i = g i) → pk8 f n = pk8 g n
  | 0, _ => rfl
  | n + 1, hf => by
    unfold pk8
    rw [pk8_cong n (fun i hi => hf i (by omega)), hf n (by omega)]
theorem byo_lo {a b n o : Nat} (ho : o < n) : byo (a + b * 2 ^ (8 * n)) o = byo a o := by
  unfold byo
  rw [show 8 * n = 8 * o + (8 + 8 * (n - o - 1)) by omega, Nat.pow_add, Nat.pow_add, show b * (2 ^ (8 * o) * (2 ^ 8 * 2 ^ (8 * (n - o - 1)))) = 2 ^ (8 * o) * (256 * (2 ^ (8 * (n - o - 1)) * b)) by rw [show (2 : Nat) ^ 8 = 256 from rfl]; ac_rfl, Nat.add_mul_div_left _ _ (Nat.two_pow_pos _), Nat.add_mul_mod_self_left]
theorem byo_hi {a b n : Nat} (ha : a < 2 ^ (8 * n)) (hb : b < 256) : byo (a + b * 2 ^ (8 * n)) n = b := by
  unfold byo
  rw [Nat.mul_comm b, Nat.add_mul_div_left _ _ (Nat.two_pow_pos _), Nat.div_eq_of_lt ha, Nat.zero_add, Nat.mod_eq_of_lt hb]
theorem byo_big {a o : Nat} (ha : a < 2 ^ (8 * o)) : byo a o = 0 := by
  unfold byo
  rw [Nat.div_eq_of_lt ha]
theorem pk8_byte {f : Nat → Nat} : ∀ n o, (∀ i, i < n → f i < 256) → o < n → byo (pk8 f n) o = f o
  | 0, o, _, ho => by omega
  | n + 1, o, hf, ho => by
    unfold pk8
    by_cases h1 : o = n
    · subst h1
      exact byo_hi (pk8_lt o (fun i hi => hf i (by omega))) (hf o (by omega))
    · rw [byo_lo (by omega)]
      exact pk8_byte n o (fun i hi => hf i (by omega)) (by omega)
/-- may o be ahead of k (o = 5: nothing is ahead) -/
def fol (σ : Nat → Nat) (o k : Nat) : Nat := if o = 5 then σ (5 + k) else σ (15 + 5 * o + k)
def ain (σ : Nat → Nat) (X k : Nat) : Nat := ors (fun o => if fol σ o k = 1 then byo X o else 0) 6
theorem ain_lt (X k : Nat) : ain σ X k < 256 := ors_lt (k := 8) 6 (fun i _ => by
  show (if _ then _ else _) < _
  by_cases h : fol σ i k = 1
  · rw [if_pos h]; exact byo_lt X i
  · rw [if_neg h]; decide)
def mnt (σ : Nat → Nat) (X : Nat) : Nat := ors (fun o => if σ (10 + o) = 1 then byo X o else 0) 5
theorem mnt_lt (X : Nat) : mnt σ X < 256 := ors_lt (k := 8) 5 (fun i _ => by
  show (if _ then _ else _) < _
  by_cases h : σ (10 + i) = 1
  · rw [if_pos h]; exact byo_lt X i
  · rw [if_neg h]; decide)
theorem ahd_pk (k : Nat) : ahd σ k = pk8 (fun o => 255 * fol σ o k) 6 := by
  unfold ahd
  simp only [pk8, fol]
  simp
  omega
theorem ens_pk : ens σ = pk8 (fun o => 255 * σ (10 + o)) 5 := by
  unfold ens
  simp only [pk8]
  simp
  omega
theorem and255 (a : Nat) (ha : a < 256) (b : Nat) (hb : b ≤ 1) : a &&& (255 * b) = if b = 1 then a else 0 := by
  rcases (show b = 0 ∨ b = 1 by omega) with rfl | rfl
  · simp
  · rw [if_pos rfl, Nat.mul_one, show 255 = 2 ^ 8 - 1 from rfl, Nat.and_two_pow_sub_one_eq_mod]
    exact Nat.mod_eq_of_lt ha
theorem TgOk.fl (H : TgOk σ nm) {o k : Nat} (ho : o < 6) (hk : k < 5) : fol σ o k ≤ 1 := by
  unfold fol
  by_cases h5 : o = 5
  · rw [if_pos h5]; exact H.2.1 _ (by omega) (by omega)
  · rw [if_neg h5]; exact H.2.1 _ (by omega) (by omega)
theorem any_ain (H : TgOk σ nm) (X : Nat) {k : Nat} (hk : k < 5) : anyN (X &&& ahd σ k) = ain σ X k := by
  have hb : ∀ i, i < 6 → (fun o => 255 * fol σ o k) i < 256 := fun i hi => by
    have := H.fl (o := i) hi hk
    show 255 * fol σ i k < 256
    omega
  have e1 : ∀ o, o < 6 → byo (X &&& ahd σ k) o = if fol σ o k = 1 then byo X o else 0 := fun o ho => by
    rw [byo_and, ahd_pk, pk8_byte 6 o hb ho, and255 _ (byo_lt X o) _ (H.fl ho hk)]
  have e2 : ∀ o, 6 ≤ o → byo (X &&& ahd σ k) o = 0 := fun o ho => by
    rw [byo_and, ahd_pk, byo_big (a := pk8 _ 6) (Nat.lt_of_lt_of_le (pk8_lt 6 hb) (Nat.pow_le_pow_right (by decide) (by omega))), Nat.and_zero]
  rw [anyN_b, e1 0 (by omega), e1 1 (by omega), e1 2 (by omega), e1 3 (by omega), e1 4 (by omega), e1 5 (by omega), e2 6 (by omega), e2 7 (by omega)]
  simp only [ain, ors, Nat.or_zero, Nat.zero_or]
theorem any_mnt (H : TgOk σ nm) (X : Nat) : anyN (X &&& ens σ) = mnt σ X := by
  have hb : ∀ i, i < 5 → (fun o => 255 * σ (10 + o)) i < 256 := fun i hi => by
    have := H.2.1 (10 + i) (by omega) (by omega)
    show 255 * σ (10 + i) < 256
    omega
  have e1 : ∀ o, o < 5 → byo (X &&& ens σ) o = if σ (10 + o) = 1 then byo X o else 0 := fun o ho => by
    rw [byo_and, ens_pk, pk8_byte 5 o hb ho, and255 _ (byo_lt X o) _ (H.2.1 _ (by omega) (by omega))]
  have e2 : ∀ o, 5 ≤ o → byo (X &&& ens σ) o = 0 := fun o ho => by
    rw [byo_and, ens_pk, byo_big (a := pk8 _ 5) (Nat.lt_of_lt_of_le (pk8_lt 5 hb) (Nat.pow_le_pow_right (by decide) (by omega))), Nat.and_zero]
  rw [anyN_b, e1 0 (by omega), e1 1 (by omega), e1 2 (by omega), e1 3 (by omega), e1 4 (by omega), e2 5 (by omega), e2 6 (by omega), e2 7 (by omega)]
  simp only [mnt, ors, Nat.or_zero, Nat.zero_or]
end CORE
