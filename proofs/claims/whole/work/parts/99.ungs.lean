section UNGS
variable {tp : List Nat} {ρ ρ' σ : Nat → Nat} {nS nK nm N nS' nK' nm' : Nat → List Nat} {h h' gc gc1 gm : Hp} {s ed ck : Nat} {rc rm : Option (Int32 × Hp)}
/-! numbers written one behind the other -/
def wrH (h : Hp) (c b : Nat) (f : Nat → Nat) : Nat → Hp
  | 0 => h
  | n + 1 => sI (wrH h c b f n) c (b + n) (nI (f n))
theorem wrH_S {c b : Nat} {f : Nat → Nat} : ∀ n, Same [c] h (wrH h c b f n)
  | 0 => Same.rf
  | n + 1 => (wrH_S n).tr (Same.ofI (List.mem_cons_self ..))
theorem wrH_out {c b j : Nat} {f : Nat → Nat} : ∀ n, (j < b ∨ b + n ≤ j) → (wrH h c b f n).1 c j = h.1 c j
  | 0, _ => rfl
  | n + 1, hj => by
    show (sI (wrH h c b f n) c (b + n) (nI (f n))).1 c j = _
    rw [sI_nk1 (by omega), wrH_out n (by omega)]
theorem wrH_in {c b i : Nat} {f : Nat → Nat} : ∀ n, i < n → (wrH h c b f n).1 c (b + i) = nI (f i)
  | 0, hi => by omega
  | n + 1, hi => by
    show (sI (wrH h c b f n) c (b + n) (nI (f n))).1 c (b + i) = _
    by_cases z : i = n
    · rw [z]; exact sI_s
    · rw [sI_nk1 (by omega), wrH_in n (by omega)]
theorem wrH_158 {b : Nat} {f : Nat → Nat} : ∀ n, unM h (wrH h 158 b f n)
  | 0 => unM.rf
  | n + 1 => (wrH_158 n).tr unM.ofI158
/-! a 'reads' more -/
theorem cR_readsAs {t w k : Nat} (T : ∀ w, w < 8 → h.1 (t + 8) w = nI (rds ρ w)) (H : TgOk ρ nm) (hw : w < 8) (hk : k < 5) : f_X10_readsAs t (nI w) (nI k) h = some (nI (decide (ρ (72 + 5 * w + k) = 1)).toNat, h) := by
  have hr := T w hw
  have rl := rds_lt H hw
  have rb := rds_bit H hw hk
  unfold f_X10_readsAs
  by_cases h1 : ρ (72 + 5 * w + k) = 1
  · simp (disch := omega) only [li_0, li_1, li_2, li_3, li_4, li_5, li_6, li_7, li_8, li_9, li_10, li_12, li_13, li_14, li_15, li_16, li_20, li_24, li_25, li_31, li_32, li_40, li_48, li_54, li_56, li_64, li_72, li_97, li_99, li_100, li_112, li_122, li_144, li_145, li_155, li_157, li_200, li_216, li_255, li_256, li_432, li_437, li_438, li_462, li_463, li_713, li_900, li_940, lL_0, lL_1, lL_255, lL_1099511627776, neg_1, ltT, ltF, leT, leF, eqT, eqF, ltMT, ltMF, leMT, leMF, eqMF, eqMF', addM, inbT, clp, nI_add, subN, pk_mul, nzT, remN, shl1, bitN, bit0, bit1, lcE, lcLE, lcLT, LleT, LleF, LltT, LltF, LeqT, LeqF, ↓bndS, ↓bnvS, ↓lt_s1, bndS, bnvS, eq_self, ↓reduceIte, hr, rb, h1, decide_true, Bool.true_eq_false]
    rfl
  · simp (disch := omega) only [li_0, li_1, li_2, li_3, li_4, li_5, li_6, li_7, li_8, li_9, li_10, li_12, li_13, li_14, li_15, li_16, li_20, li_24, li_25, li_31, li_32, li_40, li_48, li_54, li_56, li_64, li_72, li_97, li_99, li_100, li_112, li_122, li_144, li_145, li_155, li_157, li_200, li_216, li_255, li_256, li_432, li_437, li_438, li_462, li_463, li_713, li_900, li_940, lL_0, lL_1, lL_255, lL_1099511627776, neg_1, ltT, ltF, leT, leF, eqT, eqF, ltMT, ltMF, leMT, leMF, eqMF, eqMF', addM, inbT, clp, nI_add, subN, pk_mul, nzT, remN, shl1, bitN, bit0, bit1, lcE, lcLE, lcLT, LleT, LleF, LltT, LltF, LeqT, LeqF, ↓bndS, ↓bnvS, ↓lt_s1, bndS, bnvS, eq_self, ↓reduceIte, hr, rb, h1, decide_false]
    rfl
theorem RgC.ld {w q : Nat} (H : TgOk ρ nm) (hw : w < ρ 2) (hq : q < ρ 0) (h0 : ρ (72 + 5 * w + q) = 0) (R : RgC h 142 ρ nS nK nm) : RgC (sI h 150 w (nI (rds (ldS ρ w q) w))) 142 (ldS ρ w q) nS nK nm := by
  have s5 := H.1.1
  have h8 := H.1.2.2.1
  obtain ⟨⟨a1, a2, a3, a4, a5⟩, ⟨b1, b2, b3⟩, c, ⟨d1, d2⟩, e, ⟨f1, f2⟩, g⟩ := R
  have o : ∀ k, k < 72 → ldS ρ w q k = ρ k := fun k hk => ldS_n (by omega) (by omega)
  have i0 : ∀ c, c ≠ 150 → (sI h 150 w (nI (rds (ldS ρ w q) w))).1 c = h.1 c := fun c hc => funext fun _ => sI_ne1 hc
  unfold RgC
  rw [o 0 (by omega), o 1 (by omega), o 2 (by omega), o 3 (by omega), o 4 (by omega), i0 142 (by decide), i0 (142 + 1) (by decide), i0 (142 + 2) (by decide), i0 (142 + 3) (by decide), i0 (142 + 5) (by decide), i0 (142 + 6) (by decide), i0 (142 + 7) (by decide), i0 (142 + 9) (by decide), ens_u (fun j _ _ => o j (by omega)), idl_u (fun j _ _ => o j (by omega))]
  refine ⟨⟨a1, a2, a3, a4, a5⟩, ⟨b1, b2, b3⟩, fun k k1 k2 => ?_, ⟨fun k hk => ?_, d2⟩, fun w' hw' => ?_, ⟨fun w' hw' => ?_, f2⟩, fun i hi => ?_⟩
  · rw [ldS_n (by omega) (by omega)]; exact c k k1 k2
  · rw [ahd_u (fun j _ _ => o j (by omega)) hk]; exact d1 k hk
  · rw [o _ (by omega), o _ (by omega), o _ (by omega)]; exact e w' hw'
  · show (sI h 150 w (nI (rds (ldS ρ w q) w))).1 150 w' = _
    by_cases z : w' = w
    · rw [z]; exact sI_s
    · rw [sI_nk1 z, (rds_ld H hw hq h0).2 w' hw' z]; exact f1 w' hw'
  · rw [mk_ld H hw hq h0 hi]; exact g i hi
theorem RgM.ld {w q : Nat} (hw : w < 8) (hq : q < 5) (R : RgM h ρ nS nK nm) : RgM (wrH (sI h 158 (72 + 5 * w + q) 1) 158 (112 + 8 * (5 * w + q)) (fun i => i) 8) (ldS ρ w q) nS nK nm := by
  obtain ⟨a1, a2, a3, a4⟩ := R
  have o : ∀ k, k < 72 → ldS ρ w q k = ρ k := fun k hk => ldS_n (by omega) (by omega)
  have S8 : Same [158] h (wrH (sI h 158 (72 + 5 * w + q) 1) 158 (112 + 8 * (5 * w + q)) (fun i => i) 8) := (Same.ofI (by decide)).tr (wrH_S 8)
  unfold RgM
  rw [o 0 (by omega), o 1 (by omega), o 2 (by omega), (S8 159 (by decide)).2.1]
  refine ⟨fun k hk => ?_, a2, a3, a4⟩
  by_cases z : 112 + 8 * (5 * w + q) ≤ k ∧ k < 120 + 8 * (5 * w + q)
  · obtain ⟨m, hm⟩ : ∃ m, m = k - (112 + 8 * (5 * w + q)) := ⟨_, rfl⟩
    rw [show k = 112 + 8 * (5 * w + q) + m by omega, wrH_in 8 (by omega), ldS_b hw hq (by omega)]
  · rw [wrH_out 8 (by omega)]
    by_cases z2 : k = 72 + 5 * w + q
    · rw [z2, sI_s, ldS_y]; rfl
    · rw [sI_nk1 z2, ldS_n z2 (by omega)]; exact a1 k hk
theorem RgOk.ld {w q : Nat} (R : RgOk ρ nS nK nm) (hw : w < ρ 2) (hq : q < ρ 0) : RgOk (ldS ρ w q) nS nK nm := by
  refine ⟨R.1.ld hw hq, ?_, ?_⟩
  · rw [ldS_n (by omega) (by omega)]; exact R.2.1
  · rw [ldS_n (by omega) (by omega)]; exact R.2.2
/-! a change -/
def chF (how m v : Nat) : Nat := if how = 0 then v ||| 2 ^ m else if how = 1 then v &&& (7 - 2 ^ m) else v ^^^ 2 ^ m
theorem chF_lt : ∀ how, how < 3 → ∀ m, m < 3 → ∀ v, v < 8 → chF how m v < 8 := by decide
def chS (ρ : Nat → Nat) (w q how m : Nat) : Nat → Nat := fun j => if 112 + 8 * (5 * w + q) ≤ j ∧ j < 120 + 8 * (5 * w + q) then chF how m (ρ j) else ρ j
theorem chS_o {w q how m j : Nat} (hj : j < 112 + 8 * (5 * w + q) ∨ 120 + 8 * (5 * w + q) ≤ j) : chS ρ w q how m j = ρ j := if_neg (by omega)
theorem chS_i {w q how m j : Nat} (h1 : 112 + 8 * (5 * w + q) ≤ j) (h2 : j < 120 + 8 * (5 * w + q)) : chS ρ w q how m j = chF how m (ρ j) := if_pos ⟨h1, h2⟩
theorem RgC.ch {w q how m : Nat} (hw : w < 8) (hq : q < 5) (h1 : ρ (72 + 5 * w + q) = 1) (h8 : ρ 2 ≤ 8) (R : RgC h 142 ρ nS nK nm) : RgC (wrH h 151 (8 * (5 * w + q)) (fun i => chF how m (ρ (112 + 8 * (5 * w + q) + i))) 8) 142 (chS ρ w q how m) nS nK nm := by
  obtain ⟨⟨a1, a2, a3, a4, a5⟩, ⟨b1, b2, b3⟩, c, ⟨d1, d2⟩, e, ⟨f1, f2⟩, g⟩ := R
  have o : ∀ k, (k < 112 ∨ 432 ≤ k) → chS ρ w q how m k = ρ k := fun k hk => chS_o (by omega)
  have S8 : Same [151] h (wrH h 151 (8 * (5 * w + q)) (fun i => chF how m (ρ (112 + 8 * (5 * w + q) + i))) 8) := wrH_S 8
  have i0 : ∀ c, c ∉ [151] → (wrH h 151 (8 * (5 * w + q)) (fun i => chF how m (ρ (112 + 8 * (5 * w + q) + i))) 8).1 c = h.1 c := fun c hc => (S8 c hc).1
  unfold RgC
  rw [o 0 (by omega), o 1 (by omega), o 2 (by omega), o 3 (by omega), o 4 (by omega), i0 142 (by decide), i0 (142 + 1) (by decide), i0 (142 + 2) (by decide), i0 (142 + 3) (by decide), i0 (142 + 5) (by decide), i0 (142 + 6) (by decide), i0 (142 + 7) (by decide), i0 (142 + 8) (by decide), (S8 142 (by decide)).2.1, (S8 (142 + 4) (by decide)).2.1, ens_u (fun j _ _ => o j (by omega)), idl_u (fun j _ _ => o j (by omega))]
  refine ⟨⟨a1, a2, a3, a4, a5⟩, ⟨b1, b2, b3⟩, fun k k1 k2 => ?_, ⟨fun k hk => ?_, d2⟩, fun w' hw' => ?_, ⟨fun w' hw' => ?_, f2⟩, fun i hi => ?_⟩
  · rw [o _ (by omega)]; exact c k k1 k2
  · rw [ahd_u (fun j _ _ => o j (by omega)) hk]; exact d1 k hk
  · rw [o _ (by omega), o _ (by omega), o _ (by omega)]; exact e w' hw'
  · rw [rds_u (fun j _ _ => o j (by omega)) hw']; exact f1 w' hw'
  · show (wrH h 151 (8 * (5 * w + q)) (fun i => chF how m (ρ (112 + 8 * (5 * w + q) + i))) 8).1 151 i = _
    by_cases z : 8 * (5 * w + q) ≤ i ∧ i < 8 * (5 * w + q) + 8
    · obtain ⟨v, hv⟩ : ∃ v, v = i - 8 * (5 * w + q) := ⟨_, rfl⟩
      have ei : i = 8 * (5 * w + q) + v := by omega
      have e8 : i / 8 = 5 * w + q := by omega
      unfold mk
      rw [e8, show 72 + (5 * w + q) = 72 + 5 * w + q by omega, chS_o (by omega), h1, if_pos rfl, chS_i (by omega) (by omega), ei, wrH_in 8 (by omega), Nat.add_assoc]
    · rw [wrH_out 8 (by omega), show mk (chS ρ w q how m) i = mk ρ i by unfold mk; rw [chS_o (by omega), chS_o (by omega)]]
      exact g i hi
theorem RgM.ch {w q how m : Nat} (hw : w < 8) (hq : q < 5) (R : RgM h ρ nS nK nm) : RgM (wrH h 158 (112 + 8 * (5 * w + q)) (fun i => chF how m (ρ (112 + 8 * (5 * w + q) + i))) 8) (chS ρ w q how m) nS nK nm := by
  obtain ⟨a1, a2, a3, a4⟩ := R
  have o : ∀ k, k < 112 → chS ρ w q how m k = ρ k := fun k hk => chS_o (by omega)
  have S8 : Same [158] h (wrH h 158 (112 + 8 * (5 * w + q)) (fun i => chF how m (ρ (112 + 8 * (5 * w + q) + i))) 8) := wrH_S 8
  unfold RgM
  rw [o 0 (by omega), o 1 (by omega), o 2 (by omega), (S8 159 (by decide)).2.1]
  refine ⟨fun k hk => ?_, a2, a3, a4⟩
  by_cases z : 112 + 8 * (5 * w + q) ≤ k ∧ k < 120 + 8 * (5 * w + q)
  · obtain ⟨v, hv⟩ : ∃ v, v = k - (112 + 8 * (5 * w + q)) := ⟨_, rfl⟩
    rw [show k = 112 + 8 * (5 * w + q) + v by omega, wrH_in 8 (by omega), chS_i (by omega) (by omega)]
  · rw [wrH_out 8 (by omega), chS_o (by omega)]; exact a1 k hk
theorem RgOk.ch {w q how m : Nat} (hw : w < 8) (hq : q < 5) (hh : how < 3) (hm : m < 3) (R : RgOk ρ nS nK nm) : RgOk (chS ρ w q how m) nS nK nm := by
  obtain ⟨⟨⟨b1, b2, b3, b4⟩, c1, c2, c3, c4, c5, c6, c7⟩, d, e⟩ := R
  have o : ∀ k, (k < 112 ∨ 432 ≤ k) → chS ρ w q how m k = ρ k := fun k hk => chS_o (by omega)
  have o0 := o 0 (by omega)
  have o1 := o 1 (by omega)
  have o2 := o 2 (by omega)
  refine ⟨⟨?_, fun k k1 k2 => ?_, fun k k1 k2 => ?_, fun w' hw' => ?_, fun k k1 k2 => ?_, fun w' w1 w2 => ?_, fun i hi => ?_, fun k k1 k2 => ?_⟩, ?_, ?_⟩
  · rw [o0, o1, o2, o 3 (by omega), o 4 (by omega)]; exact ⟨b1, b2, b3, b4⟩
  · rw [o k (by omega)]; exact c1 k k1 k2
  · rw [o0] at k1
    obtain ⟨z1, z2, z3, z4⟩ := c2 k k1 k2
    refine ⟨by rw [o _ (by omega)]; exact z1, by rw [o _ (by omega)]; exact z2, fun p hp => ⟨by rw [o _ (by omega)]; exact (z3 p hp).1, by rw [o _ (by omega)]; exact (z3 p hp).2⟩, fun w' hw' => by rw [o _ (by omega)]; exact z4 w' hw'⟩
  · rw [o2] at hw'
    rw [o _ (by omega), o _ (by omega), o _ (by omega)]; exact c3 w' hw'
  · rw [o k (by omega)]; exact c4 k k1 k2
  · rw [o2] at w1
    exact ⟨by rw [o _ (by omega)]; exact (c5 w' w1 w2).1, fun k hk => by rw [o _ (by omega)]; exact (c5 w' w1 w2).2 k hk⟩
  · by_cases z : 112 + 8 * (5 * w + q) ≤ 112 + i ∧ 112 + i < 120 + 8 * (5 * w + q)
    · rw [chS_i z.1 z.2]; exact chF_lt how hh m hm _ (c6 i hi)
    · rw [chS_o (by omega)]; exact c6 i hi
  · rw [o _ (by omega)]; exact c7 k k1 k2
  · rw [o0]; exact d
  · rw [o1]; exact e
theorem c_change {w q kp st : Nat} {f : Nat → Nat} (hw : w < 8) (hq : q < 5) (R : ∀ i, i < 8 → h.1 151 (8 * (5 * w + q) + i) = nI (f i)) : f_X10_change 142 (nI w) (nI q) (nI kp) (nI st) h = some (wrH h 151 (8 * (5 * w + q)) (fun i => (f i &&& kp) ^^^ st) 8) := by
  unfold f_X10_change
  rw [li_5, li_8, pk_mul, nI_add, pk_mul, show (w * 5 + q) * 8 = 8 * (5 * w + q) by omega, lt_s1]
  refine sq2 8 (fun i => nI (8 * (5 * w + q) + i)) (fun i => wrH h 151 (8 * (5 * w + q)) (fun i => (f i &&& kp) ^^^ st) i) (fun self => ?_) (fun self i hi => ?_) (by omega) rfl rfl
  · unfold F_X10_change_14
    rw [li_8, nI_add, if_pos (nI_le (Nat.le_refl _) (by omega))]
  · unfold F_X10_change_14
    rw [li_8, nI_add, if_neg (nI_ge (by omega) (by omega)), if_pos (inb_nI (by omega) (by decide)), if_pos (inb_nI (by omega) (by decide)), clp (by omega), show (142 + 9 : Nat) = 151 from rfl, wrH_out i (by omega), R i hi, fa_and, fa_xor, lt_s1, nI_1]
    rfl
theorem m_fill {p : Nat} (hp : p < 429) (K : Hp → Option (Int32 × Hp)) : itr2 (F_X13_readReads_112 (nI p) K) N0 0 h = K (wrH h 158 p (fun i => i) 8) := by
  refine sq2 8 (fun i => nI i) (fun i => wrH h 158 p (fun i => i) i) (fun self => ?_) (fun self i hi => ?_) (by omega) rfl rfl
  · unfold F_X13_readReads_112
    rw [if_pos (show (8 : Int32) ≤ nI 8 by decide)]
  · unfold F_X13_readReads_112
    rw [if_neg (show ¬ (8 : Int32) ≤ nI i from nI_ge (b := 8) (a := i) hi (by omega)), nI_add, if_pos (inb_nI (by omega) (by decide)), clp (by omega), lt_s1, nI_1]
    rfl
theorem ch_n1 : ∀ m, m < 3 → ∀ v, v < 8 → nI v &&& (nI (2 ^ m) ^^^ (-1)) = nI (v &&& (7 - 2 ^ m)) := by decide
theorem m_change {p how m : Nat} {x4 : Int32} {f : Nat → Nat} (hp : p < 429) (hh : how < 3) (hm : m < 3) (R : ∀ i, i < 8 → h.1 158 (p + i) = nI (f i)) (f8 : ∀ i, i < 8 → f i < 8) (K : Hp → Option (Int32 × Hp)) : itr2 (F_X13_readReads_245 (nI p) x4 (nI how) (nI (2 ^ m)) K) N0 0 h = K (wrH h 158 p (fun i => chF how m (f i)) 8) := by
  refine sq2 8 (fun i => nI i) (fun i => wrH h 158 p (fun i => chF how m (f i)) i) (fun self => ?_) (fun self i hi => ?_) (by omega) rfl rfl
  · unfold F_X13_readReads_245
    rw [if_pos (show (8 : Int32) ≤ nI 8 by decide)]
  · have v8 := f8 i hi
    have e : (wrH h 158 p (fun i => chF how m (f i)) i).1 158 (p + i) = nI (f i) := by rw [wrH_out i (by omega)]; exact R i hi
    have fin : ∀ v : Int32, v = nI (chF how m (f i)) → B_X13_readReads_315 (nI p) x4 (nI how) (nI (2 ^ m)) K self (nI i) v (nI (p + i)) (wrH h 158 p (fun i => chF how m (f i)) i) = self (nI (i + 1)) (wrH h 158 p (fun i => chF how m (f i)) (i + 1)) := fun v hv => by
      unfold B_X13_readReads_315
      rw [if_pos (inb_nI (by omega) (by decide)), clp (by omega), lt_s1, nI_1, hv]
      rfl
    unfold F_X13_readReads_245
    rw [if_neg (show ¬ (8 : Int32) ≤ nI i from nI_ge (b := 8) (a := i) hi (by omega)), nI_add, if_pos (inb_nI (by omega) (by decide)), if_pos (inb_nI (by omega) (by decide)), if_pos (inb_nI (by omega) (by decide)), clp (by omega), e]
    rcases (show how = 0 ∨ how = 1 ∨ how = 2 by omega) with z | z | z
    · rw [if_pos (show nI how = 0 by rw [z]; rfl)]
      exact fin _ (by rw [fa_or, z]; rfl)
    · rw [if_neg (show ¬ nI how = 0 by rw [z]; decide), if_pos (show nI how = 1 by rw [z]; rfl)]
      exact fin _ (by rw [ch_n1 m hm _ v8, z]; rfl)
    · rw [if_neg (show ¬ nI how = 0 by rw [z]; decide), if_neg (show ¬ nI how = 1 by rw [z]; decide)]
      exact fin _ (by rw [fa_xor, z]; rfl)
end UNGS
