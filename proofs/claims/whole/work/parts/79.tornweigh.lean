section TORN4
variable {σ : Nat → Nat} {nm : Nat → List Nat} {h h' : Hp}
/-! the greatest product from a place on, behind a SORT -/
def gv (σ : Nat → Nat) (p : Option Nat) (g : Nat → Nat) (o w k : Nat) : Nat := if σ (72 + 5 * w + k) = 1 ∧ fol σ o k = 1 then wgt σ p w * g k else 0
def gx (σ : Nat → Nat) (p : Option Nat) (g : Nat → Nat) (o w : Nat) : Nat := if may p w = true then mx (gv σ p g o w) 5 else 0
def gb (σ : Nat → Nat) (l : Nat → Option Nat) (n : Nat) : Nat → Nat → Nat
  | 0 => fun o => if o = 5 then 0 else σ (10 + o)
  | d + 1 => fun o => mx (gx σ (l (n - 1 - d)) (gb σ l n d) o) (σ 2)
def pb (l : Nat → Option Nat) (n : Nat) : Nat → Nat
  | 0 => 0
  | d + 1 => pb l n d + (if l (n - 1 - d) = none then 1 else 0)
theorem pb_mono (l : Nat → Option Nat) (n : Nat) {d : Nat} : ∀ j, pb l n d ≤ pb l n (d + j)
  | 0 => Nat.le_refl _
  | j + 1 => Nat.le_trans (pb_mono l n j) (Nat.le_add_right _ _)
theorem wgt_le (H : TgOk σ nm) {p : Option Nat} {w : Nat} (hw : w < σ 2) : wgt σ p w ≤ 60 ^ (if p = none then 1 else 0) := by
  cases p with
  | none => rw [if_pos rfl]; exact (H.2.2.2.1 w hw).2.2.1
  | some v => rw [if_neg (fun z => by cases z)]; exact Nat.le_refl _
theorem wgt_pos (H : TgOk σ nm) {p : Option Nat} {w : Nat} (hw : w < σ 2) : 1 ≤ wgt σ p w := by
  cases p with
  | none => exact (H.2.2.2.1 w hw).2.1
  | some v => exact Nat.le_refl _
theorem gb_le (H : TgOk σ nm) (l : Nat → Option Nat) (n : Nat) : ∀ d o, o < 6 → gb σ l n d o ≤ 60 ^ pb l n d
  | 0, o, ho => by
    show (if o = 5 then 0 else σ (10 + o)) ≤ 1
    by_cases h1 : o = 5
    · rw [if_pos h1]; omega
    · rw [if_neg h1]; exact H.2.1 (10 + o) (by omega) (by omega)
  | d + 1, o, ho => by
    refine (mx_le _).mpr (fun w hw => ?_)
    unfold gx
    by_cases h1 : may (l (n - 1 - d)) w = true
    · rw [if_pos h1]
      refine (mx_le _).mpr (fun k hk => ?_)
      unfold gv
      by_cases h2 : σ (72 + 5 * w + k) = 1 ∧ fol σ o k = 1
      · rw [if_pos h2]
        show _ ≤ 60 ^ (pb l n d + _)
        rw [Nat.pow_add, Nat.mul_comm]
        exact Nat.mul_le_mul (gb_le H l n d k (by omega)) (wgt_le H hw)
      · rw [if_neg h2]; exact Nat.zero_le _
    · rw [if_neg h1]; exact Nat.zero_le _
theorem wg_le (H : TgOk σ nm) (l : Nat → Option Nat) (n : Nat) {d w k : Nat} (hw : w < σ 2) (hk : k < 6) : wgt σ (l (n - 1 - d)) w * gb σ l n d k ≤ 60 ^ pb l n (d + 1) := by
  show _ ≤ 60 ^ (pb l n d + _)
  rw [Nat.pow_add, Nat.mul_comm]
  exact Nat.mul_le_mul (gb_le H l n d k hk) (wgt_le H hw)
theorem p60 {e : Nat} (he : e ≤ 10) : 60 ^ e < 4611686018427387904 := Nat.lt_of_le_of_lt (Nat.pow_le_pow_right (by decide) he) (by decide)
theorem c_weightAt {l : Nat → Option Nat} {n i w : Nat} (B : TB σ nm l n h) (hL : LtOk l) (H : TgOk σ nm) (hi : i < n) (hn : n ≤ 12) (hw : w < σ 2) : f_X8_weightAt (nI i) (nI w) h = some (lN (wgt σ (l i) w), h) := by
  have h8 := H.1.2.2.1
  have e := B.2.2.2 i hi
  have e1 := (lI_n (p := l i) (w := w) (hL i) (by omega)).1
  have w60 := (H.2.2.2.1 w hw).2.2.1
  unfold f_X8_weightAt
  rw [if_pos (inb_nI (by omega) (by decide)), clp (by omega), e]
  by_cases h1 : l i = none
  · have e2 : h.1 (7 + 6) w = nI (σ (48 + w)) := (B.1.2.2.2.2.1 w hw).2.1
    rw [if_pos (e1.mpr h1), B.2.1, lt_s1, if_pos (by decide), if_pos (inb_nI (by omega) (by decide)), clp (by omega), e2, ItoL (by omega), h1]
    rfl
  · rw [if_neg (fun z => h1 (e1.mp z))]
    cases hp : l i with
    | none => exact absurd hp h1
    | some v => rfl
theorem LleN {a b : Nat} (ha : a < 4611686018427387904) (hb : b < 4611686018427387904) : (lN a ≤ lN b) = (a ≤ b) := by
  by_cases h1 : a ≤ b
  · rw [LleT h1 (by omega), eq_true h1]
  · rw [LleF (by omega) (by omega), eq_false h1]
theorem c_weighW62 {i k v : Nat} {a : Nat → Nat} {x1 x2 : Int32} (T : TgRep h 7 σ nm) (h7 : h.2.2 133 7 = 7) (H : TgOk σ nm) (hi : i < 12) (hk : k < 5) (hv : v < 4611686018427387904) (ha : ∀ o, o < 6 → h.2.1 139 (i * 6 + o) = lN (a o) ∧ a o < 4611686018427387904) (kk : Hp → Option Hp) : ∃ h', itr2 (F_X8_weighWith_62 x1 x2 (nI (i * 6)) (nI k) (lN v) kk) N0 (nI 0) h = kk h' ∧ Same [139] h h' ∧ h'.1 = h.1 ∧ (∀ j, j < i * 6 ∨ i * 6 + 6 ≤ j → h'.2.1 139 j = h.2.1 139 j) ∧ ∀ o, o < 6 → h'.2.1 139 (i * 6 + o) = lN (if fol σ o k = 1 then max (a o) v else a o) := by
  obtain ⟨h', e, s1, s2, s3, s4⟩ := loop2n (F := F_X8_weighWith_62 x1 x2 (nI (i * 6)) (nI k) (lN v) kk) (k := kk) 6 (fun j g => Same [139] h g ∧ g.1 = h.1 ∧ (∀ j, j < i * 6 ∨ i * 6 + 6 ≤ j → g.2.1 139 j = h.2.1 139 j) ∧ ∀ o, o < 6 → g.2.1 139 (i * 6 + o) = lN (if o < j ∧ fol σ o k = 1 then max (a o) v else a o)) (fun self g _ => by
      unfold F_X8_weighWith_62
      simp (disch := omega) only [li_0, li_1, li_2, li_3, li_4, li_5, li_6, li_7, li_8, li_9, li_10, li_12, li_13, li_14, li_15, li_16, li_20, li_24, li_25, li_31, li_32, li_40, li_48, li_54, li_56, li_64, li_72, li_97, li_99, li_100, li_112, li_122, li_144, li_145, li_155, li_157, li_200, li_216, li_255, li_256, li_432, li_437, li_438, li_462, li_463, li_713, li_900, li_940, lL_0, lL_1, lL_255, lL_1099511627776, neg_1, ltT, ltF, leT, leF, eqT, eqF, ltMT, ltMF, leMT, leMF, eqMF, eqMF', addM, inbT, clp, nI_add, subN, pk_mul, nzT, remN, shl1, bitN, bit0, bit1, lcE, lcLE, lcLT, LleT, LleF, LltT, LltF, LeqT, LeqF, ↓bndS, ↓bnvS, ↓lt_s1, bndS, bnvS, eq_self, ↓reduceIte]) (fun self o g ho ⟨q1, q2, q3, q4⟩ => by
      have Tg : TgRep g 7 σ nm := T.kept (fun a h1 h2 => by
        have := q1 a (by simp only [List.mem_cons, List.not_mem_nil, or_false]; omega)
        exact ⟨this.1, this.2.1⟩)
      have g7 : g.2.2 133 7 = 7 := by rw [(q1 133 (by decide)).2.2]; exact h7
      have mf := c_mayFollow (o := o) Tg H ho hk
      have ao := (ha o ho).2
      have a1 := q4 o ho
      rw [if_neg (fun z => Nat.lt_irrefl _ z.1)] at a1
      have cmp := LleN hv ao
      have up : ∀ x, x < 6 → x ≠ o → (if x < o ∧ fol σ x k = 1 then max (a x) v else a x) = (if x < o + 1 ∧ fol σ x k = 1 then max (a x) v else a x) := fun x hx hne => by
        by_cases h1 : x < o ∧ fol σ x k = 1
        · rw [if_pos h1, if_pos ⟨by omega, h1.2⟩]
        · rw [if_neg h1, if_neg (fun z => h1 ⟨by omega, z.2⟩)]
      have i78 : i * 6 + o < 78 := by omega
      by_cases hle : v ≤ a o
      · refine ⟨g, ?_, q1, q2, q3, fun x hx => ?_⟩
        · unfold F_X8_weighWith_62
          simp (disch := omega) only [li_0, li_1, li_2, li_3, li_4, li_5, li_6, li_7, li_8, li_9, li_10, li_12, li_13, li_14, li_15, li_16, li_20, li_24, li_25, li_31, li_32, li_40, li_48, li_54, li_56, li_64, li_72, li_97, li_99, li_100, li_112, li_122, li_144, li_145, li_155, li_157, li_200, li_216, li_255, li_256, li_432, li_437, li_438, li_462, li_463, li_713, li_900, li_940, lL_0, lL_1, lL_255, lL_1099511627776, neg_1, ltT, ltF, leT, leF, eqT, eqF, ltMT, ltMF, leMT, leMF, eqMF, eqMF', addM, inbT, clp, nI_add, subN, pk_mul, nzT, remN, shl1, bitN, bit0, bit1, lcE, lcLE, lcLT, LleT, LleF, LltT, LltF, LeqT, LeqF, ↓bndS, ↓bnvS, ↓lt_s1, bndS, bnvS, eq_self, ↓reduceIte, a1, cmp, hle]
        · rw [q4 x hx]
          by_cases hxo : x = o
          · subst hxo
            rw [if_neg (fun z => Nat.lt_irrefl _ z.1)]
            by_cases h1 : fol σ x k = 1
            · rw [if_pos ⟨by omega, h1⟩, Nat.max_eq_left hle]
            · rw [if_neg (fun z => h1 z.2)]
          · rw [up x hx hxo]
      · by_cases hf : fol σ o k = 1
        · refine ⟨sL g 139 (i * 6 + o) (lN v), ?_, q1.tr (Same.ofL (by decide)), q2, fun j hj => by rw [sL_nk1 (by omega)]; exact q3 j hj, fun x hx => ?_⟩
          · unfold F_X8_weighWith_62
            simp (disch := omega) only [li_0, li_1, li_2, li_3, li_4, li_5, li_6, li_7, li_8, li_9, li_10, li_12, li_13, li_14, li_15, li_16, li_20, li_24, li_25, li_31, li_32, li_40, li_48, li_54, li_56, li_64, li_72, li_97, li_99, li_100, li_112, li_122, li_144, li_145, li_155, li_157, li_200, li_216, li_255, li_256, li_432, li_437, li_438, li_462, li_463, li_713, li_900, li_940, lL_0, lL_1, lL_255, lL_1099511627776, neg_1, ltT, ltF, leT, leF, eqT, eqF, ltMT, ltMF, leMT, leMF, eqMF, eqMF', addM, inbT, clp, nI_add, subN, pk_mul, nzT, remN, shl1, bitN, bit0, bit1, lcE, lcLE, lcLT, LleT, LleF, LltT, LltF, LeqT, LeqF, ↓bndS, ↓bnvS, ↓lt_s1, bndS, bnvS, eq_self, ↓reduceIte, a1, cmp, hle, g7, isO87, mf, hf, decide_true, Bool.true_eq_false]
          · by_cases hxo : x = o
            · subst hxo
              rw [sL_s, if_pos ⟨by omega, hf⟩, Nat.max_eq_right (by omega)]
            · rw [sL_nk1 (by omega), q4 x hx, up x hx hxo]
        · refine ⟨g, ?_, q1, q2, q3, fun x hx => ?_⟩
          · unfold F_X8_weighWith_62
            simp (disch := omega) only [li_0, li_1, li_2, li_3, li_4, li_5, li_6, li_7, li_8, li_9, li_10, li_12, li_13, li_14, li_15, li_16, li_20, li_24, li_25, li_31, li_32, li_40, li_48, li_54, li_56, li_64, li_72, li_97, li_99, li_100, li_112, li_122, li_144, li_145, li_155, li_157, li_200, li_216, li_255, li_256, li_432, li_437, li_438, li_462, li_463, li_713, li_900, li_940, lL_0, lL_1, lL_255, lL_1099511627776, neg_1, ltT, ltF, leT, leF, eqT, eqF, ltMT, ltMF, leMT, leMF, eqMF, eqMF', addM, inbT, clp, nI_add, subN, pk_mul, nzT, remN, shl1, bitN, bit0, bit1, lcE, lcLE, lcLT, LleT, LleF, LltT, LltF, LeqT, LeqF, ↓bndS, ↓bnvS, ↓lt_s1, bndS, bnvS, eq_self, ↓reduceIte, a1, cmp, hle, g7, isO87, mf, hf, decide_false]
          · rw [q4 x hx]
            by_cases hxo : x = o
            · subst hxo
              rw [if_neg (fun z => hf z.2), if_neg (fun z => hf z.2)]
            · rw [up x hx hxo]) h ⟨Same.rf, rfl, fun _ _ => rfl, fun o ho => by rw [if_neg (fun z => Nat.not_lt_zero _ z.1)]; exact (ha o ho).1⟩ (by omega)
  refine ⟨h', e, s1, s2, s3, fun o ho => ?_⟩
  rw [s4 o ho]
  by_cases h1 : fol σ o k = 1
  · rw [if_pos h1, if_pos ⟨ho, h1⟩]
  · rw [if_neg h1, if_neg (fun z => h1 z.2)]
theorem c_weighWith {l : Nat → Option Nat} {n i w : Nat} {a g0 : Nat → Nat} (B : TB σ nm l n h) (hL : LtOk l) (H : TgOk σ nm) (hi : i < n) (hn : n ≤ 12) (hw : w < σ 2) (hg : ∀ k, k < 5 → h.2.1 139 ((i + 1) * 6 + k) = lN (g0 k) ∧ wgt σ (l i) w * g0 k < 4611686018427387904) (ha : ∀ o, o < 6 → h.2.1 139 (i * 6 + o) = lN (a o) ∧ a o < 4611686018427387904) : ∃ h', f_X8_weighWith (nI i) (nI w) h = some h' ∧ Same [139] h h' ∧ h'.1 = h.1 ∧ (∀ j, j < i * 6 ∨ i * 6 + 6 ≤ j → h'.2.1 139 j = h.2.1 139 j) ∧ ∀ o, o < 6 → h'.2.1 139 (i * 6 + o) = lN (max (a o) (mx (gv σ (l i) g0 o w) 5)) := by
  have h8 := H.1.2.2.1
  have s5 := H.1.1
  have gvl : ∀ o k, k < 5 → gv σ (l i) g0 o w k < 4611686018427387904 := fun o k hk => by
    unfold gv
    by_cases h1 : σ (72 + 5 * w + k) = 1 ∧ fol σ o k = 1
    · rw [if_pos h1]; exact (hg k hk).2
    · rw [if_neg h1]; decide
  have mxl : ∀ o k, k ≤ 5 → mx (gv σ (l i) g0 o w) k < 4611686018427387904 := fun o k hk => by
    have := (mx_le (f := gv σ (l i) g0 o w) (c := 4611686018427387903) k).mpr (fun j hj => by have := gvl o j (by omega); omega)
    omega
  obtain ⟨h', e, s1, s2, s3, s4⟩ := loop2n (F := F_X8_weighWith_8 (nI i) (nI w) (nI (i * 6)) (fun h26 => some h26)) (k := fun h26 => some h26) (σ 0) (fun k g => Same [139] h g ∧ g.1 = h.1 ∧ (∀ j, j < i * 6 ∨ i * 6 + 6 ≤ j → g.2.1 139 j = h.2.1 139 j) ∧ ∀ o, o < 6 → g.2.1 139 (i * 6 + o) = lN (max (a o) (mx (gv σ (l i) g0 o w) k))) (fun self g ⟨q1, q2, q3, q4⟩ => by
      have Bg := B.same (q1.mono (fun a h1 => by simp only [List.mem_cons, List.not_mem_nil, or_false] at h1 ⊢; omega))
      have g7 := Bg.2.1
      have g0 := Bg.1.1.1
      unfold F_X8_weighWith_8
      simp (disch := omega) only [li_0, li_1, li_2, li_3, li_4, li_5, li_6, li_7, li_8, li_9, li_10, li_12, li_13, li_14, li_15, li_16, li_20, li_24, li_25, li_31, li_32, li_40, li_48, li_54, li_56, li_64, li_72, li_97, li_99, li_100, li_112, li_122, li_144, li_145, li_155, li_157, li_200, li_216, li_255, li_256, li_432, li_437, li_438, li_462, li_463, li_713, li_900, li_940, lL_0, lL_1, lL_255, lL_1099511627776, neg_1, ltT, ltF, leT, leF, eqT, eqF, ltMT, ltMF, leMT, leMF, eqMF, eqMF', addM, inbT, clp, nI_add, subN, pk_mul, nzT, remN, shl1, bitN, bit0, bit1, lcE, lcLE, lcLT, LleT, LleF, LltT, LltF, LeqT, LeqF, ↓bndS, ↓bnvS, ↓lt_s1, bndS, bnvS, eq_self, ↓reduceIte, g7, isO87, g0]) (fun self k g hk ⟨q1, q2, q3, q4⟩ => by
      have Bg := B.same (q1.mono (fun a h1 => by simp only [List.mem_cons, List.not_mem_nil, or_false] at h1 ⊢; omega))
      have g7 := Bg.2.1
      have gz := Bg.1.1.1
      have ra := c_readsAs (w := w) (k := k) Bg.1 H (by omega) (by omega)
      have wa := c_weightAt Bg hL H hi hn hw
      have aq : ∀ o, o < 6 → g.2.1 139 (i * 6 + o) = lN (max (a o) (mx (gv σ (l i) g0 o w) k)) ∧ max (a o) (mx (gv σ (l i) g0 o w) k) < 4611686018427387904 := fun o ho => ⟨q4 o ho, Nat.max_lt.mpr ⟨(ha o ho).2, mxl o k (by omega)⟩⟩
      have em : ∀ o, mx (gv σ (l i) g0 o w) (k + 1) = max (mx (gv σ (l i) g0 o w) k) (gv σ (l i) g0 o w k) := fun _ => rfl
      by_cases hr : σ (72 + 5 * w + k) = 1
      · have gk : g.2.1 139 (i * 6 + 5 + 1 + k) = lN (g0 k) := by
          rw [q3 _ (by omega), show i * 6 + 5 + 1 + k = (i + 1) * 6 + k by omega]
          exact (hg k (by omega)).1
        obtain ⟨g', e, r1, r2, r3, r4⟩ := c_weighW62 (x1 := nI i) (x2 := nI w) (i := i) (k := k) (v := wgt σ (l i) w * g0 k) Bg.1 g7 H (by omega) (by omega) (hg k (by omega)).2 aq (fun h25 => self (nI k + nI 1) h25)
        refine ⟨g', ?_, q1.tr r1, r2.trans q2, fun j hj => (r3 j hj).trans (q3 j hj), fun o ho => ?_⟩
        · unfold F_X8_weighWith_8
          simp (disch := omega) only [li_0, li_1, li_2, li_3, li_4, li_5, li_6, li_7, li_8, li_9, li_10, li_12, li_13, li_14, li_15, li_16, li_20, li_24, li_25, li_31, li_32, li_40, li_48, li_54, li_56, li_64, li_72, li_97, li_99, li_100, li_112, li_122, li_144, li_145, li_155, li_157, li_200, li_216, li_255, li_256, li_432, li_437, li_438, li_462, li_463, li_713, li_900, li_940, lL_0, lL_1, lL_255, lL_1099511627776, neg_1, ltT, ltF, leT, leF, eqT, eqF, ltMT, ltMF, leMT, leMF, eqMF, eqMF', addM, inbT, clp, nI_add, subN, pk_mul, nzT, remN, shl1, bitN, bit0, bit1, lcE, lcLE, lcLT, LleT, LleF, LltT, LltF, LeqT, LeqF, ↓bndS, ↓bnvS, ↓lt_s1, bndS, bnvS, eq_self, ↓reduceIte, g7, isO87, gz, ra, hr, decide_true, Bool.true_eq_false, wa, gk, lN_mul]
          rw [nI_add] at e
          exact e
        · rw [r4 o ho, em]
          unfold gv
          by_cases h1 : fol σ o k = 1
          · rw [if_pos h1, if_pos ⟨hr, h1⟩, Nat.max_assoc]
          · rw [if_neg h1, if_neg (fun z => h1 z.2), Nat.max_zero]
      · obtain ⟨g', e, r1, r2, r3, r4⟩ := c_weighW62 (x1 := nI i) (x2 := nI w) (i := i) (k := k) (v := 0) Bg.1 g7 H (by omega) (by omega) (by decide) aq (fun h25 => self (nI k + nI 1) h25)
        refine ⟨g', ?_, q1.tr r1, r2.trans q2, fun j hj => (r3 j hj).trans (q3 j hj), fun o ho => ?_⟩
        · unfold F_X8_weighWith_8
          simp (disch := omega) only [li_0, li_1, li_2, li_3, li_4, li_5, li_6, li_7, li_8, li_9, li_10, li_12, li_13, li_14, li_15, li_16, li_20, li_24, li_25, li_31, li_32, li_40, li_48, li_54, li_56, li_64, li_72, li_97, li_99, li_100, li_112, li_122, li_144, li_145, li_155, li_157, li_200, li_216, li_255, li_256, li_432, li_437, li_438, li_462, li_463, li_713, li_900, li_940, lL_0, lL_1, lL_255, lL_1099511627776, neg_1, ltT, ltF, leT, leF, eqT, eqF, ltMT, ltMF, leMT, leMF, eqMF, eqMF', addM, inbT, clp, nI_add, subN, pk_mul, nzT, remN, shl1, bitN, bit0, bit1, lcE, lcLE, lcLT, LleT, LleF, LltT, LltF, LeqT, LeqF, ↓bndS, ↓bnvS, ↓lt_s1, bndS, bnvS, eq_self, ↓reduceIte, g7, isO87, gz, ra, hr, decide_false]
          rw [nI_add] at e
          exact e
        · rw [r4 o ho, em, show gv σ (l i) g0 o w k = 0 from if_neg (fun z => hr z.1), Nat.max_zero, Nat.max_zero, ite_self]) h ⟨Same.rf, rfl, fun _ _ => rfl, fun o ho => by rw [(ha o ho).1]; exact congrArg lN (Nat.max_zero _).symm⟩ (by omega)
  refine ⟨h', ?_, s1, s2, s3, fun o ho => ?_⟩
  · unfold f_X8_weighWith
    simp (disch := omega) only [li_0, li_1, li_2, li_3, li_4, li_5, li_6, li_7, li_8, li_9, li_10, li_12, li_13, li_14, li_15, li_16, li_20, li_24, li_25, li_31, li_32, li_40, li_48, li_54, li_56, li_64, li_72, li_97, li_99, li_100, li_112, li_122, li_144, li_145, li_155, li_157, li_200, li_216, li_255, li_256, li_432, li_437, li_438, li_462, li_463, li_713, li_900, li_940, lL_0, lL_1, lL_255, lL_1099511627776, neg_1, ltT, ltF, leT, leF, eqT, eqF, ltMT, ltMF, leMT, leMF, eqMF, eqMF', addM, inbT, clp, nI_add, subN, pk_mul, nzT, remN, shl1, bitN, bit0, bit1, lcE, lcLE, lcLT, LleT, LleF, LltT, LltF, LeqT, LeqF, ↓bndS, ↓bnvS, ↓lt_s1, bndS, bnvS, eq_self, ↓reduceIte]
    exact e
  · rw [s4 o ho, mx_ext (f := gv σ (l i) g0 o w) (σ 0) 5 H.1.1 (fun k h1 h2 => if_neg (fun z => by
      have := (H.2.2.1 k h1 h2).2.2.2 w (by omega)
      rw [this] at z
      exact absurd z.1 (by decide)))]
theorem c_weighAllW {l : Nat → Option Nat} {n i : Nat} {g0 : Nat → Nat} (B : TB σ nm l n h) (hL : LtOk l) (H : TgOk σ nm) (hi : i < n) (hn : n ≤ 12) (hg : ∀ k, k < 5 → h.2.1 139 ((i + 1) * 6 + k) = lN (g0 k) ∧ ∀ w, w < σ 2 → wgt σ (l i) w * g0 k < 4611686018427387904) (ha : ∀ o, o < 6 → h.2.1 139 (i * 6 + o) = lN 0) (kk : Hp → Option Hp) : ∃ h', itr2 (F_X8_weighAll_70 (nI i) kk) N0 (nI 0) h = kk h' ∧ Same [139] h h' ∧ h'.1 = h.1 ∧ (∀ j, j < i * 6 ∨ i * 6 + 6 ≤ j → h'.2.1 139 j = h.2.1 139 j) ∧ ∀ o, o < 6 → h'.2.1 139 (i * 6 + o) = lN (mx (gx σ (l i) g0 o) (σ 2)) := by
  have h8 := H.1.2.2.1
  have gxl : ∀ o w, w < σ 2 → gx σ (l i) g0 o w ≤ 4611686018427387903 := fun o w hw => by
    unfold gx
    by_cases h1 : may (l i) w = true
    · rw [if_pos h1]
      refine (mx_le _).mpr (fun k hk => ?_)
      unfold gv
      by_cases h2 : σ (72 + 5 * w + k) = 1 ∧ fol σ o k = 1
      · rw [if_pos h2]; have := (hg k hk).2 w hw; omega
      · rw [if_neg h2]; omega
    · rw [if_neg h1]; omega
  obtain ⟨h', e, s1, s2, s3, s4⟩ := loop2n (F := F_X8_weighAll_70 (nI i) kk) (k := kk) (σ 2) (fun w g => Same [139] h g ∧ g.1 = h.1 ∧ (∀ j, j < i * 6 ∨ i * 6 + 6 ≤ j → g.2.1 139 j = h.2.1 139 j) ∧ ∀ o, o < 6 → g.2.1 139 (i * 6 + o) = lN (mx (gx σ (l i) g0 o) w)) (fun self g ⟨q1, q2, q3, q4⟩ => by
      have Bg := B.same (q1.mono (fun a h1 => by simp only [List.mem_cons, List.not_mem_nil, or_false] at h1 ⊢; omega))
      have g7 := Bg.2.1
      have g2 := Bg.1.1.2.2.1
      unfold F_X8_weighAll_70
      simp (disch := omega) only [li_0, li_1, li_2, li_3, li_4, li_5, li_6, li_7, li_8, li_9, li_10, li_12, li_13, li_14, li_15, li_16, li_20, li_24, li_25, li_31, li_32, li_40, li_48, li_54, li_56, li_64, li_72, li_97, li_99, li_100, li_112, li_122, li_144, li_145, li_155, li_157, li_200, li_216, li_255, li_256, li_432, li_437, li_438, li_462, li_463, li_713, li_900, li_940, lL_0, lL_1, lL_255, lL_1099511627776, neg_1, ltT, ltF, leT, leF, eqT, eqF, ltMT, ltMF, leMT, leMF, eqMF, eqMF', addM, inbT, clp, nI_add, subN, pk_mul, nzT, remN, shl1, bitN, bit0, bit1, lcE, lcLE, lcLT, LleT, LleF, LltT, LltF, LeqT, LeqF, ↓bndS, ↓bnvS, ↓lt_s1, bndS, bnvS, eq_self, ↓reduceIte, g7, isO87, g2]) (fun self w g hw ⟨q1, q2, q3, q4⟩ => by
      have Bg := B.same (q1.mono (fun a h1 => by simp only [List.mem_cons, List.not_mem_nil, or_false] at h1 ⊢; omega))
      have g7 := Bg.2.1
      have g2 := Bg.1.1.2.2.1
      have ms := c_mayStandAt (w := w) Bg hL hi hn (by omega)
      have em : ∀ o, mx (gx σ (l i) g0 o) (w + 1) = max (mx (gx σ (l i) g0 o) w) (gx σ (l i) g0 o w) := fun _ => rfl
      cases hm : may (l i) w
      · refine ⟨g, ?_, q1, q2, q3, fun o ho => ?_⟩
        · unfold F_X8_weighAll_70
          simp (disch := omega) only [li_0, li_1, li_2, li_3, li_4, li_5, li_6, li_7, li_8, li_9, li_10, li_12, li_13, li_14, li_15, li_16, li_20, li_24, li_25, li_31, li_32, li_40, li_48, li_54, li_56, li_64, li_72, li_97, li_99, li_100, li_112, li_122, li_144, li_145, li_155, li_157, li_200, li_216, li_255, li_256, li_432, li_437, li_438, li_462, li_463, li_713, li_900, li_940, lL_0, lL_1, lL_255, lL_1099511627776, neg_1, ltT, ltF, leT, leF, eqT, eqF, ltMT, ltMF, leMT, leMF, eqMF, eqMF', addM, inbT, clp, nI_add, subN, pk_mul, nzT, remN, shl1, bitN, bit0, bit1, lcE, lcLE, lcLT, LleT, LleF, LltT, LltF, LeqT, LeqF, ↓bndS, ↓bnvS, ↓lt_s1, bndS, bnvS, eq_self, ↓reduceIte, g7, isO87, g2, ms, hm]
        · rw [q4 o ho, em, show gx σ (l i) g0 o w = 0 from if_neg (by rw [hm]; decide), Nat.max_zero]
      · obtain ⟨g', e, r1, r2, r3, r4⟩ := c_weighWith (w := w) (a := fun o => mx (gx σ (l i) g0 o) w) (g0 := g0) Bg hL H hi hn hw (fun k hk => ⟨by rw [q3 _ (by omega)]; exact (hg k hk).1, (hg k hk).2 w hw⟩) (fun o ho => ⟨q4 o ho, Nat.lt_of_le_of_lt ((mx_le w).mpr (fun j hj => gxl o j (by omega))) (by decide)⟩)
        refine ⟨g', ?_, q1.tr r1, r2.trans q2, fun j hj => (r3 j hj).trans (q3 j hj), fun o ho => ?_⟩
        · unfold F_X8_weighAll_70
          simp (disch := omega) only [li_0, li_1, li_2, li_3, li_4, li_5, li_6, li_7, li_8, li_9, li_10, li_12, li_13, li_14, li_15, li_16, li_20, li_24, li_25, li_31, li_32, li_40, li_48, li_54, li_56, li_64, li_72, li_97, li_99, li_100, li_112, li_122, li_144, li_145, li_155, li_157, li_200, li_216, li_255, li_256, li_432, li_437, li_438, li_462, li_463, li_713, li_900, li_940, lL_0, lL_1, lL_255, lL_1099511627776, neg_1, ltT, ltF, leT, leF, eqT, eqF, ltMT, ltMF, leMT, leMF, eqMF, eqMF', addM, inbT, clp, nI_add, subN, pk_mul, nzT, remN, shl1, bitN, bit0, bit1, lcE, lcLE, lcLT, LleT, LleF, LltT, LltF, LeqT, LeqF, ↓bndS, ↓bnvS, ↓lt_s1, bndS, bnvS, eq_self, ↓reduceIte, g7, isO87, g2, ms, hm, Bool.true_eq_false, e]
        · rw [r4 o ho, em, show gx σ (l i) g0 o w = mx (gv σ (l i) g0 o w) 5 from if_pos hm]) h ⟨Same.rf, rfl, fun _ _ => rfl, fun o ho => ha o ho⟩ (by omega)
  exact ⟨h', e, s1, s2, s3, s4⟩
theorem c_weighAll {l : Nat → Option Nat} {n : Nat} (B : TB σ nm l n h) (hL : LtOk l) (H : TgOk σ nm) (hn : n ≤ 12) (hp : pb l n n ≤ 10) : ∃ h', f_X8_weighAll h = some h' ∧ Same [139] h h' ∧ h'.1 = h.1 ∧ ∀ j, j ≤ n → ∀ o, o < 6 → h'.2.1 139 (j * 6 + o) = lN (gb σ l n (n - j) o) := by
  have s5 := H.1.1
  have pm : ∀ d, d ≤ n → pb l n d ≤ 10 := fun d hd => by
    have := pb_mono l n (d := d) (n - d)
    rw [show d + (n - d) = n by omega] at this
    omega
  obtain ⟨h0, e0, t1, t2, t3⟩ := c_fillL (h := h) (a := 139) (v := 0) (by rw [aln139]; omega)
  rw [aln139] at t3
  have B0 := B.same (t1.mono (fun a h1 => by simp only [List.mem_cons, List.not_mem_nil, or_false] at h1 ⊢; omega))
  obtain ⟨h1, e1, u1, u2, u3⟩ := loop2n (F := F_X8_weighAll_10 (fun h12 => lt ((h12.1 133 9) - 1) fun v13 => itr2 (F_X8_weighAll_64 (fun h23 => some h23)) N0 v13 h12)) (k := (fun h12 => lt ((h12.1 133 9) - 1) fun v13 => itr2 (F_X8_weighAll_64 (fun h23 => some h23)) N0 v13 h12)) (σ 0) (fun k g => Same [139] h0 g ∧ g.1 = h0.1 ∧ ∀ j, j < 78 → g.2.1 139 j = lN (if n * 6 ≤ j ∧ j < n * 6 + k then σ (10 + (j - n * 6)) else 0)) (fun self g ⟨q1, q2, q3⟩ => by
      have Bg := B0.same (q1.mono (fun a h1 => by simp only [List.mem_cons, List.not_mem_nil, or_false] at h1 ⊢; omega))
      have g7 := Bg.2.1
      have gz := Bg.1.1.1
      unfold F_X8_weighAll_10
      rw [g7, lt_s1, if_pos (by decide), gz, if_pos (nI_le (Nat.le_refl _) (by omega))]) (fun self k g hk ⟨q1, q2, q3⟩ => by
      have Bg := B0.same (q1.mono (fun a h1 => by simp only [List.mem_cons, List.not_mem_nil, or_false] at h1 ⊢; omega))
      have g7 := Bg.2.1
      have gz := Bg.1.1.1
      have g9 := Bg.2.2.1
      have me := c_mayEnd (k := k) Bg.1 H (by omega)
      have f1 := H.2.1 (10 + k) (by omega) (by omega)
      refine ⟨sL g 139 (n * 6 + k) (lN (σ (10 + k))), ?_, q1.tr (Same.ofL (by decide)), q2, fun j hj => ?_⟩
      · unfold F_X8_weighAll_10 B_X8_weighAll_50
        by_cases he : σ (10 + k) = 1
        · simp (disch := omega) only [li_0, li_1, li_2, li_3, li_4, li_5, li_6, li_7, li_8, li_9, li_10, li_12, li_13, li_14, li_15, li_16, li_20, li_24, li_25, li_31, li_32, li_40, li_48, li_54, li_56, li_64, li_72, li_97, li_99, li_100, li_112, li_122, li_144, li_145, li_155, li_157, li_200, li_216, li_255, li_256, li_432, li_437, li_438, li_462, li_463, li_713, li_900, li_940, lL_0, lL_1, lL_255, lL_1099511627776, neg_1, ltT, ltF, leT, leF, eqT, eqF, ltMT, ltMF, leMT, leMF, eqMF, eqMF', addM, inbT, clp, nI_add, subN, pk_mul, nzT, remN, shl1, bitN, bit0, bit1, lcE, lcLE, lcLT, LleT, LleF, LltT, LltF, LeqT, LeqF, ↓bndS, ↓bnvS, ↓lt_s1, bndS, bnvS, eq_self, ↓reduceIte, g7, isO87, gz, g9, me, he, decide_true, Bool.true_eq_false]
        · simp (disch := omega) only [li_0, li_1, li_2, li_3, li_4, li_5, li_6, li_7, li_8, li_9, li_10, li_12, li_13, li_14, li_15, li_16, li_20, li_24, li_25, li_31, li_32, li_40, li_48, li_54, li_56, li_64, li_72, li_97, li_99, li_100, li_112, li_122, li_144, li_145, li_155, li_157, li_200, li_216, li_255, li_256, li_432, li_437, li_438, li_462, li_463, li_713, li_900, li_940, lL_0, lL_1, lL_255, lL_1099511627776, neg_1, ltT, ltF, leT, leF, eqT, eqF, ltMT, ltMF, leMT, leMF, eqMF, eqMF', addM, inbT, clp, nI_add, subN, pk_mul, nzT, remN, shl1, bitN, bit0, bit1, lcE, lcLE, lcLT, LleT, LleF, LltT, LltF, LeqT, LeqF, ↓bndS, ↓bnvS, ↓lt_s1, bndS, bnvS, eq_self, ↓reduceIte, g7, isO87, gz, g9, me, he, decide_false]
          rw [show σ (10 + k) = 0 by omega]
      · by_cases hj2 : j = n * 6 + k
        · subst hj2
          rw [sL_s, if_pos ⟨by omega, by omega⟩, show n * 6 + k - n * 6 = k by omega]
        · rw [sL_nk1 hj2, q3 j hj]
          by_cases h1 : n * 6 ≤ j ∧ j < n * 6 + k
          · rw [if_pos h1, if_pos ⟨h1.1, by omega⟩]
          · rw [if_neg h1, if_neg (fun z => h1 ⟨z.1, by omega⟩)]) h0 ⟨Same.rf, rfl, fun j hj => by rw [t3 j hj, if_neg (fun z => by omega)]; rfl⟩ (by omega)
  have S1 : Same [139] h h1 := t1.tr u1
  have B1 := B.same (S1.mono (fun a h1 => by simp only [List.mem_cons, List.not_mem_nil, or_false] at h1 ⊢; omega))
  obtain ⟨h2, e2, v1, v2, v3, v4⟩ := loopDn (F := F_X8_weighAll_64 (fun h23 => some h23)) (k := fun h23 => some h23) n (fun i g => Same [139] h1 g ∧ g.1 = h1.1 ∧ (∀ j, j < i * 6 → g.2.1 139 j = lN 0) ∧ ∀ j, i ≤ j → j ≤ n → ∀ o, o < 6 → g.2.1 139 (j * 6 + o) = lN (gb σ l n (n - j) o)) (fun self g _ => by
      unfold F_X8_weighAll_64
      rw [if_pos (by decide)]) (fun self i g hi ⟨q1, q2, q3, q4⟩ => by
      have Bg := B1.same (q1.mono (fun a h1 => by simp only [List.mem_cons, List.not_mem_nil, or_false] at h1 ⊢; omega))
      have ed : n - 1 - (n - (i + 1)) = i := by omega
      obtain ⟨g', e, r1, r2, r3, r4⟩ := c_weighAllW (i := i) (g0 := gb σ l n (n - (i + 1))) Bg hL H hi hn (fun k hk => ⟨q4 (i + 1) (Nat.le_refl _) (by omega) k (by omega), fun w hw => by
        have := wg_le H l n (d := n - (i + 1)) (k := k) hw (by omega)
        rw [ed] at this
        exact Nat.lt_of_le_of_lt this (p60 (pm _ (by omega)))⟩) (fun o ho => q3 _ (by omega)) (fun h22 => self (nI i + (-1)) h22)
      refine ⟨g', ?_, q1.tr r1, r2.trans q2, fun j hj => by rw [r3 j (by omega)]; exact q3 j (by omega), fun j h1 h2 o ho => ?_⟩
      · unfold F_X8_weighAll_64
        rw [li_0, if_neg (nI_nlt (by omega) (by omega))]
        exact e
      · by_cases h3 : j = i
        · subst h3
          rw [r4 o ho, show n - j = (n - (j + 1)) + 1 by omega]
          show _ = lN (mx (gx σ (l (n - 1 - (n - (j + 1)))) (gb σ l n (n - (j + 1))) o) (σ 2))
          rw [ed]
        · rw [r3 _ (by omega)]
          exact q4 j (by omega) h2 o ho) h1 ⟨Same.rf, rfl, fun j hj => by rw [u3 j (by omega), if_neg (fun z => by omega)], fun j h1 h2 o ho => by
        have hj : j = n := by omega
        subst hj
        rw [u3 _ (by omega), Nat.sub_self, show j * 6 + o - j * 6 = o by omega]
        show _ = lN (if o = 5 then 0 else σ (10 + o))
        by_cases h5 : o = 5
        · rw [if_pos h5, if_neg (fun z => by omega)]
        · rw [if_neg h5]
          by_cases h6 : o < σ 0
          · rw [if_pos ⟨by omega, by omega⟩]
          · rw [if_neg (fun z => by omega), (H.2.2.1 o (by omega) (by omega)).2.1]⟩ (by omega)
  refine ⟨h2, ?_, S1.tr v1, v2.trans (u2.trans t2), fun j hj o ho => v4 j (Nat.zero_le _) hj o ho⟩
  unfold f_X8_weighAll
  rw [e0, bnvS]
  rw [li_0]
  rw [e1, lt_s1, B1.2.2.1, e2]
end TORN4
