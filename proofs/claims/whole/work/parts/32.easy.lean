/-! ===== rows, tape: put, copyFrom, atOrNone, feed, end ===== -/
theorem row_put {r n : Nat} {h : Hp} {v : Int32} (hsz : h.1 r 1 = nI n) (hn : n < aln (r + 1)) (hc : aln (r + 1) < 2 ^ 31) : f_X7_put r v h = some (sI (sI h (r + 1) n v) r 1 (nI (n + 1))) := by
  unfold f_X7_put
  rw [hsz, if_neg (show ¬ Int32.ofNat (aln (r + 1)) ≤ nI n from nI_ge hn hc), if_pos (inb_nI hn hc), lt_s0, lt_s0, nI_clamp (by omega), sI_ne1 (by omega), hsz, nI_1]
theorem row_at {r n k : Nat} {h : Hp} (hsz : h.1 r 1 = nI n) (hk : k < n) (hn : n ≤ aln (r + 1)) (hc : aln (r + 1) < 2 ^ 31) : f_X7_atOrNone r (nI k) h = some (h.1 (r + 1) k, h) := by
  unfold f_X7_atOrNone
  rw [if_neg (nI_pos (by omega)), hsz, if_neg (nI_ge hk (by omega)), if_pos (inb_nI (by omega) hc), nI_clamp (by omega)]
theorem row_none {r n : Nat} {x : Int32} {h : Hp} (hsz : h.1 r 1 = nI n) (hx : ∀ k, k < n → x ≠ nI k) (hn : n < 2 ^ 31) : f_X7_atOrNone r x h = some (-1, h) := by
  unfold f_X7_atOrNone
  by_cases h1 : x < 0
  · rw [if_pos h1]
  · rw [if_neg h1, hsz, if_pos]
    rcases pk_ix x hn with h2 | h2 | ⟨j, h2, h3⟩
    · exact absurd h2 h1
    · exact h2
    · exact absurd h3 (hx j h2)
theorem lc {n : Nat} (h : n < 2 ^ 31) : (OfNat.ofNat n : Int32).toNatClampNeg = n := nI_clamp h
theorem lc0 : (0 : Int32).toNatClampNeg = 0 := rfl
theorem cpOk_nI {n a b : Nat} (ha : n ≤ a) (hb : n ≤ b) (hn : n < 2 ^ 31) : cpOk 0 0 (nI n) a b = true := by
  simp only [cpOk, Bool.and_eq_true, decide_eq_true_eq]
  rw [nI_clamp hn, lc0]
  exact ⟨⟨⟨⟨by decide, by decide⟩, nI_pos' hn⟩, by omega⟩, by omega⟩
theorem row_copy {d s n : Nat} {h : Hp} (hs : h.1 s 1 = nI n) (hn : n ≤ aln (d + 1)) (hm : n ≤ aln (s + 1)) (hc : aln (d + 1) < 2 ^ 31) : f_X7_copyFrom d s h = some (sI (cI h (s + 1) 0 (d + 1) 0 n) d 1 (nI n)) := by
  unfold f_X7_copyFrom
  have e : jmin (h.1 s 1) (Int32.ofNat (aln (d + 1))) = nI n := by
    show (if Int32.ofNat (aln (d + 1)) < h.1 s 1 then _ else _) = _
    rw [hs]
    exact if_neg (show ¬ nI (aln (d + 1)) < nI n from nI_nlt hn hc)
  rw [lt_s0, e, if_pos (cpOk_nI hm hn (by omega)), lt_s0, lt_s0, lc0, nI_clamp (by omega)]
/-! bytes of a number -/
def byt (x : Int32) (k : Nat) : Nat := x.toBitVec.toNat / 2 ^ k % 256
theorem byt_lt (x : Int32) (k : Nat) : byt x k < 256 := Nat.mod_lt _ (by decide)
theorem byt_C (x : Int32) : (jushr x 24 &&& 255 = nI (byt x 24) ∧ jushr x 16 &&& 255 = nI (byt x 16)) ∧ (jushr x 8 &&& 255 = nI (byt x 8) ∧ jushr x 0 &&& 255 = nI (byt x 0)) := by
  refine ⟨⟨?_, ?_⟩, ?_, ?_⟩
  · rw [pk_and _ 8 (by decide), pk_ushr x 24 24 (by decide)]; rfl
  · rw [pk_and _ 8 (by decide), pk_ushr x 16 16 (by decide)]; rfl
  · rw [pk_and _ 8 (by decide), pk_ushr x 8 8 (by decide)]; rfl
  · rw [pk_and _ 8 (by decide), pk_ushr x 0 0 (by decide)]; rfl
theorem low8 {x y : Int32} (h : x.toBitVec.toNat % 256 = y.toBitVec.toNat % 256) : x.toInt8 = y.toInt8 := by
  apply Int8.toBitVec_inj.mp
  show x.toBitVec.signExtend 8 = y.toBitVec.signExtend 8
  apply BitVec.eq_of_getLsbD_eq
  intro i hi
  rw [BitVec.getLsbD_signExtend, BitVec.getLsbD_signExtend, if_pos (by omega), if_pos (by omega)]
  have e : ∀ z : BitVec 32, z.getLsbD i = (z.toNat % 2 ^ 8).testBit i := fun z => by
    rw [Nat.testBit_mod_two_pow]
    simp [BitVec.getLsbD, hi]
  rw [e, e, show (2 : Nat) ^ 8 = 256 from rfl, h]
theorem toI_nat (x : Int32) : x.toInt = if x.toBitVec.toNat < 2147483648 then (x.toBitVec.toNat : Int) else (x.toBitVec.toNat : Int) - 4294967296 := by
  show x.toBitVec.toInt = _
  rw [BitVec.toInt_eq_toNat_cond]
  by_cases h : x.toBitVec.toNat < 2147483648
  · rw [if_pos (by omega), if_pos h]
  · rw [if_neg (by omega), if_neg h]; rfl
theorem byt_low (x s : Int32) (k : Nat) (hk : k = 24 ∨ k = 16 ∨ k = 8 ∨ k = 0) (hs : (s.toBitVec.smod 32).toNat = k) : (x >>> s).toBitVec.toNat % 256 = byt x k := by
  have h1 := pk_shr x s k hs
  rw [Int.shiftRight_eq_div_pow] at h1
  have h2 := toI_nat (x >>> s)
  have h3 := toI_nat x
  have l1 := x.toBitVec.isLt
  have l2 := (x >>> s).toBitVec.isLt
  unfold byt
  generalize (x >>> s).toBitVec.toNat = p at *
  generalize x.toBitVec.toNat = q at *
  rcases hk with rfl | rfl | rfl | rfl
  all_goals
    simp only [Nat.reducePow] at *
    split at h2 <;> split at h3 <;> omega
theorem byt_M (x s : Int32) (k : Nat) (hk : k = 24 ∨ k = 16 ∨ k = 8 ∨ k = 0) (hs : (s.toBitVec.smod 32).toNat = k) : vp_nar .byte ((x >>> s).toInt8.toInt32) = sb_b (byt x k) := by
  rw [pk_vb]
  unfold sb_b
  congr 1
  apply low8
  rw [byt_low x s k hk hs, pk_tn (by have := byt_lt x k; omega)]
  exact (Nat.mod_eq_of_lt (byt_lt x k)).symm
def byts (x : Int32) : List Nat := [byt x 24, byt x 16, byt x 8, byt x 0]
/-- a byte behind the class's tape -/
theorem tape_put {tp : List Nat} {h : Hp} {b : Nat} (hs : h.1 2 1 = nI tp.length) (hl : lsI (h.1 3) tp) (hn : tp.length < 940) : ∃ h', f_X7_put 2 (nI b) h = some h' ∧ h'.1 2 1 = nI (tp ++ [b]).length ∧ lsI (h'.1 3) (tp ++ [b]) ∧ Same [2, 3] h h' := by
  refine ⟨_, row_put (r := 2) hs (by show _ < aln 3; exact hn) (by decide), ?_, ?_, (Same.ofI (by decide)).tr (Same.ofI (by decide))⟩
  · rw [sI_s, List.length_append]; rfl
  · intro i hi
    rw [List.length_append, List.length_singleton] at hi
    rw [sI_ne1 (by decide)]
    by_cases hi2 : i = tp.length
    · subst hi2
      rw [sI_s]
      simp [List.getD_eq_getElem?_getD]
    · rw [sI_nk1 hi2, hl i (by omega)]
      simp [List.getD_eq_getElem?_getD, List.getElem?_append_left (show i < tp.length by omega)]
