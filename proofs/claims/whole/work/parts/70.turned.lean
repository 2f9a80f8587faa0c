section TO
variable {tp : List Nat} {σ τ : Nat → Nat} {nm nm2 : Nat → List Nat} {K : Im} {fd : List Nat} {fl : Nat} {tn : Option Tn} {h h' : Hp}
theorem st_sayable (x : Int32) (hI : Inv h) : ∃ v h1 h2, f_X12_sayable x h = some (v, h1) ∧ f_X13_sayable x h1 = some (v, h2) ∧ Inv h2 := by
  obtain ⟨tp, σ, nm, K, fd, fl, tn, hA, hC, hM⟩ := hI
  have H := hA.2.1.1
  obtain ⟨-, -, -, e3, e3', e4, e4'⟩ := H.1
  have M1 := hM.keep (th_Eq 0)
  by_cases hx : ∃ m, 1 ≤ m ∧ m ≤ 5 ∧ x = nI m
  · obtain ⟨m, m1, m5, rfl⟩ := hx
    obtain ⟨h1, f1, s1, k1⟩ := c_collectSafe (most := m) hC.2.1.1 H (by omega) hC.2.2.2.2.2.2
    have C1 : CR tp σ nm K fd fl tn h1 := by
      refine hC.scr hA (fun a z1 z2 => ?_) k1
      have key : ∀ x ∈ [122, 123, 124, 125, 126, 127, 129], x ∈ scrL := by decide
      have := s1 a (fun z => z2 (key a z))
      exact ⟨this.1, this.2.1⟩
    have Mg := (hM.hi (s1.hi (by decide))).keep (th_Eq 0)
    obtain ⟨y1, j1, z1, z2, z3, z4, z5⟩ := m_settle Mg H
    have N1 := Mg.settled z1 z2 z3 z4 z5
    obtain ⟨y2, j2, F2⟩ := m_sayableIn (most := m) H (by omega) (by omega) (by omega) (by omega) (RB.ofM N1 z5)
    refine ⟨nI (syb σ (σ 3) (σ 4) m), h1, y2, ?_, ?_, tp, σ, nm, K, fd, fl, tn, hA, C1.lo hA ((th_Lo 0).tr ((z1.lo (by decide)).tr F2.lo)), N1.fs F2⟩
    · unfold f_X12_sayable
      rw [if_neg (show ¬ nI m < (1 : Int32) from nI_nlt (b := 1) m1 (by omega)), if_pos (show nI m ≤ (5 : Int32) from nI_le (b := 5) m5 (by decide)), f1, bndS]
    · unfold f_X13_sayable
      rw [lt_s0, m_isIn_t (lo := 1) (hi := 5) (a := 1) (b := 5) (j := m) _ rfl rfl rfl m1 m5 (by decide), bndS, if_neg (by decide), j1, bnvS, j2, bndS]
  · refine ⟨-1, h, sI h 155 0 0, ?_, ?_, tp, σ, nm, K, fd, fl, tn, hA, hC.lo hA (th_Lo 0), M1⟩
    · unfold f_X12_sayable
      by_cases x1 : x < 1
      · rw [if_pos x1]
      · rw [if_neg x1, if_neg]
        intro z
        obtain ⟨j, z1, z2, z3⟩ := in_range (x := x) (a := 1) (b := 5) (by decide) (by decide) x1 (by rw [Int32.not_lt]; exact z)
        exact hx ⟨j, z1, z2, z3⟩
    · unfold f_X13_sayable
      rw [lt_s0]
      rcases m_isIn x (lo := 1) (hi := 5) (a := 1) (b := 5) (sI h 155 0 0) rfl rfl (by decide) (by decide) with ⟨e, q⟩ | ⟨j, q1, q2, q3, e⟩
      · rw [e, bndS, if_pos (by decide)]
      · exact absurd ⟨j, q1, q2, q3⟩ hx
/-! a 'follow' more -/
def fwS (σ : Nat → Nat) (a b : Nat) : Nat → Nat := fun k => if k = 15 + 5 * a + b then 1 else σ k
theorem fwS_n {a b k : Nat} (hk : k ≠ 15 + 5 * a + b) : fwS σ a b k = σ k := if_neg hk
theorem fwS_y (a b : Nat) : fwS σ a b (15 + 5 * a + b) = 1 := if_pos rfl
theorem byo_xor (x y o : Nat) : byo (x ^^^ y) o = byo x o ^^^ byo y o := by
  apply Nat.eq_of_testBit_eq
  intro i
  rw [Nat.testBit_xor, byo_bit, byo_bit, byo_bit, Nat.testBit_xor]
  cases decide (i < 8) <;> simp
theorem byte_ext {x y n : Nat} (hx : x < 2 ^ (8 * n)) (hy : y < 2 ^ (8 * n)) (h : ∀ o, o < n → byo x o = byo y o) : x = y := by
  apply Nat.eq_of_testBit_eq
  intro i
  by_cases hi : i < 8 * n
  · have a := byo_bit x (i / 8) (i % 8)
    have b := byo_bit y (i / 8) (i % 8)
    rw [decide_eq_true (Nat.mod_lt _ (by decide)), Bool.true_and, Nat.div_add_mod] at a b
    rw [← a, ← b, h _ (by omega)]
  · have le : 2 ^ (8 * n) ≤ 2 ^ i := Nat.pow_le_pow_right (by decide) (by omega)
    rw [Nat.testBit_lt_two_pow (by omega), Nat.testBit_lt_two_pow (by omega)]
theorem byo_255 : ∀ a, a < 6 → ∀ o, o < 6 → byo (255 * 2 ^ (8 * a)) o = if o = a then 255 else 0 := by decide
theorem TgOk.fw (H : TgOk σ nm) {a b : Nat} (ha : a < σ 0) (hb : b < σ 0) : TgOk (fwS σ a b) nm := by
  obtain ⟨⟨a0, a1, a2, a3, a4, a5, a6⟩, b', c, d, f, g, i, j⟩ := H
  refine ⟨⟨by rw [fwS_n (by omega)]; exact a0, by rw [fwS_n (by omega)]; exact a1, by rw [fwS_n (by omega)]; exact a2, by rw [fwS_n (by omega)]; exact a3, by rw [fwS_n (by omega)]; exact a4, by rw [fwS_n (by omega)]; exact a5, by rw [fwS_n (by omega), fwS_n (by omega)]; exact a6⟩, fun k h1 h2 => ?_, fun k h1 h2 => ?_, fun w hw => ?_, fun k h1 h2 => ?_, fun w h1 h2 => ?_, fun k hk => ?_, fun k h1 h2 => ?_⟩
  · unfold fwS
    by_cases z : k = 15 + 5 * a + b
    · rw [if_pos z]; omega
    · rw [if_neg z]; exact b' k h1 h2
  · rw [fwS_n (by omega)] at h1
    obtain ⟨c1, c2, c3, c4⟩ := c k h1 h2
    exact ⟨by rw [fwS_n (by omega)]; exact c1, by rw [fwS_n (by omega)]; exact c2, fun o ho => ⟨by rw [fwS_n (by omega)]; exact (c3 o ho).1, by rw [fwS_n (by omega)]; exact (c3 o ho).2⟩, fun w hw => by rw [fwS_n (by omega)]; exact c4 w hw⟩
  · rw [fwS_n (by omega)] at hw
    rw [fwS_n (by omega), fwS_n (by omega), fwS_n (by omega)]
    exact d w hw
  · rw [fwS_n (by omega)]; exact f k h1 h2
  · rw [fwS_n (by omega)] at h1
    obtain ⟨g1, g2⟩ := g w h1 h2
    exact ⟨by rw [fwS_n (by omega)]; exact g1, fun k hk => by rw [fwS_n (by omega)]; exact g2 k hk⟩
  · rw [fwS_n (by omega)]; exact i k hk
  · rw [fwS_n (by omega)]; exact j k h1 h2
theorem fol_fw {a b o k : Nat} (ha : a < 5) (hb : b < 5) (ho : o < 6) (hk : k < 5) : fol (fwS σ a b) o k = if o = a ∧ k = b then 1 else fol σ o k := by
  unfold fol
  by_cases h5 : o = 5
  · rw [if_pos h5, if_pos h5, if_neg (by omega), fwS_n (by omega)]
  · rw [if_neg h5, if_neg h5]
    by_cases h1 : o = a ∧ k = b
    · rw [if_pos h1, h1.1, h1.2, fwS_y]
    · rw [if_neg h1, fwS_n (by omega)]
theorem ahd_fw (H : TgOk σ nm) {a b : Nat} (ha : a < σ 0) (hb : b < σ 0) (h0 : σ (15 + 5 * a + b) = 0) : ahd σ b ^^^ (255 * 2 ^ (8 * a)) = ahd (fwS σ a b) b ∧ ∀ k, k < 5 → k ≠ b → ahd (fwS σ a b) k = ahd σ k := by
  have s5 := H.1.1
  have Hf := H.fw ha hb
  have l1 := ahd_lt H (k := b) (by omega)
  have l2 := ahd_lt Hf (k := b) (by omega)
  have p8 : 255 * 2 ^ (8 * a) < 2 ^ (8 * 6) := by
    have : 2 ^ (8 * a) ≤ 2 ^ 32 := Nat.pow_le_pow_right (by decide) (by omega)
    omega
  refine ⟨?_, fun k hk hne => ?_⟩
  · refine byte_ext (n := 6) (Nat.xor_lt_two_pow (by omega) p8) (by omega) (fun o ho => ?_)
    have bf : ∀ (ρ : Nat → Nat), TgOk ρ nm → byo (ahd ρ b) o = 255 * fol ρ o b := fun ρ Hρ => by
      rw [ahd_pk, pk8_byte 6 o (fun i hi => by have := Hρ.fl (o := i) hi (show b < 5 by omega); show 255 * fol ρ i b < 256; omega) ho]
    rw [byo_xor, bf σ H, bf _ Hf, byo_255 a (by omega) o ho, fol_fw (by omega) (by omega) ho (by omega)]
    by_cases h1 : o = a
    · have f0 : fol σ o b = 0 := by
        unfold fol
        rw [if_neg (by omega), h1]
        exact h0
      rw [if_pos h1, if_pos ⟨h1, rfl⟩, f0]
      rfl
    · rw [if_neg h1, if_neg (fun z => h1 z.1), Nat.xor_zero]
  · rw [ahd_pk, ahd_pk]
    refine pk8_cong 6 (fun o ho => ?_)
    show 255 * fol (fwS σ a b) o k = 255 * fol σ o k
    rw [fol_fw (by omega) (by omega) ho hk, if_neg (fun z => hne z.2)]
theorem wb_xor {a b : Nat} (ha : a < 2 ^ 64) (hb : b < 2 ^ 64) : lN a ^^^ lN b = lN (a ^^^ b) := by
  apply wb_inj
  rw [Int64.toBitVec_xor, wb_tb, wb_tb, wb_tb]
  apply BitVec.eq_of_toNat_eq
  rw [BitVec.toNat_xor, BitVec.toNat_ofNat, BitVec.toNat_ofNat, BitVec.toNat_ofNat, Nat.mod_eq_of_lt ha, Nat.mod_eq_of_lt hb, Nat.mod_eq_of_lt (Nat.xor_lt_two_pow ha hb)]
theorem c_turnF {t a b x : Nat} (ha : a < 5) (hb : b < 5) (hx : x < 281474976710656) (hc : h.2.1 (t + 4) b = lN x) : f_X10_turnFollow t (nI a) (nI b) h = some (sL h (t + 4) b (lN (x ^^^ (255 * 2 ^ (8 * a))))) := by
  have p8 : 255 * 2 ^ (8 * a) < 2 ^ 64 := by
    have : 2 ^ (8 * a) ≤ 2 ^ 32 := Nat.pow_le_pow_right (by decide) (by omega)
    omega
  unfold f_X10_turnFollow
  rw [if_pos (inb_nI hb (by decide)), if_pos (inb_nI hb (by decide)), lt_s0, nI_clamp (by omega), hc, li_8, pk_mul, show (255 : Int64) = lN 255 from rfl, Lshl _ (by omega), wb_xor (by omega) p8]
/-- the TONGUE with a 'follow' more, in the class -/
theorem TgRep.fw {t a b : Nat} (T : TgRep h t σ nm) (H : TgOk σ nm) (ha : a < σ 0) (hb : b < σ 0) (h0 : σ (15 + 5 * a + b) = 0) : TgRep (sL h (t + 4) b (lN (ahd (fwS σ a b) b))) t (fwS σ a b) nm := by
  have s5 := H.1.1
  obtain ⟨⟨a1, a2, a3, a4, a5⟩, b', c, ⟨d, d2⟩, f, ⟨g, g2⟩, k, m⟩ := T
  have r : ∀ q, 40 ≤ q → fwS σ a b q = σ q := fun q hq => fwS_n (by omega)
  have mke : ∀ i, mk (fwS σ a b) i = mk σ i := fun i => by
    unfold mk
    rw [r _ (by omega), r _ (by omega)]
  refine ⟨⟨by rw [fwS_n (by omega)]; exact a1, by rw [fwS_n (by omega)]; exact a2, by rw [fwS_n (by omega)]; exact a3, by rw [fwS_n (by omega)]; exact a4, by rw [fwS_n (by omega)]; exact a5⟩, fun w hw => ?_, fun q h1 h2 => ?_, ⟨fun q hq => ?_, ?_⟩, fun w hw => ?_, ⟨fun w hw => ?_, ?_⟩, fun i hi => ?_, fun hz i hi => ?_⟩
  · rw [fwS_n (by omega)] at hw
    exact b' w hw
  · rw [r _ (by omega)]; exact c q h1 h2
  · by_cases z : q = b
    · rw [z, sL_s]
    · rw [sL_nk1 z, (ahd_fw H ha hb h0).2 q hq z]; exact d q hq
  · rw [sL_ne1 (by omega)]
    have : ens (fwS σ a b) = ens σ := by
      unfold ens
      rw [fwS_n (by omega), fwS_n (by omega), fwS_n (by omega), fwS_n (by omega), fwS_n (by omega)]
    rw [this]; exact d2
  · rw [fwS_n (by omega)] at hw
    rw [r _ (by omega), r _ (by omega), r _ (by omega)]
    exact f w hw
  · have : rds (fwS σ a b) w = rds σ w := by
      unfold rds
      rw [r _ (by omega), r _ (by omega), r _ (by omega), r _ (by omega), r _ (by omega)]
    rw [this]; exact g w hw
  · have : idl (fwS σ a b) = idl σ := by
      unfold idl
      rw [r _ (by omega), r _ (by omega), r _ (by omega), r _ (by omega), r _ (by omega), r _ (by omega), r _ (by omega), r _ (by omega)]
    rw [this]; exact g2
  · rw [mke]; exact k i hi
  · rw [fwS_n (by omega)] at hz
    have : mos (fwS σ a b) i = mos σ i := by
      unfold mos
      rw [funext mke]
    rw [this]; exact m hz i hi
/-! a 'reads' more -/
def ldS (σ : Nat → Nat) (w q : Nat) : Nat → Nat := fun k => if k = 72 + 5 * w + q then 1 else if 112 + 8 * (5 * w + q) ≤ k ∧ k < 120 + 8 * (5 * w + q) then k - (112 + 8 * (5 * w + q)) else σ k
theorem ldS_n {w q k : Nat} (h1 : k ≠ 72 + 5 * w + q) (h2 : k < 112 + 8 * (5 * w + q) ∨ 120 + 8 * (5 * w + q) ≤ k) : ldS σ w q k = σ k := by
  unfold ldS
  rw [if_neg h1, if_neg (by omega)]
theorem ldS_y (w q : Nat) : ldS σ w q (72 + 5 * w + q) = 1 := if_pos rfl
theorem ldS_b {w q m : Nat} (hw : w < 8) (hq : q < 5) (hm : m < 8) : ldS σ w q (112 + 8 * (5 * w + q) + m) = m := by
  unfold ldS
  rw [if_neg (by omega), if_pos (by omega)]
  omega
theorem TgOk.ld (H : TgOk σ nm) {w q : Nat} (hw : w < σ 2) (hq : q < σ 0) : TgOk (ldS σ w q) nm := by
  obtain ⟨⟨a0, a1, a2, a3, a4, a5, a6⟩, b', c, d, f, g, i, j⟩ := H
  have lo : ∀ k, k < 72 → ldS σ w q k = σ k := fun k hk => ldS_n (by omega) (by omega)
  refine ⟨⟨by rw [lo _ (by omega)]; exact a0, by rw [lo _ (by omega)]; exact a1, by rw [lo _ (by omega)]; exact a2, by rw [lo _ (by omega)]; exact a3, by rw [lo _ (by omega)]; exact a4, by rw [lo _ (by omega)]; exact a5, by rw [lo _ (by omega), lo _ (by omega)]; exact a6⟩, fun k h1 h2 => ?_, fun k h1 h2 => ?_, fun w hw => ?_, fun k h1 h2 => ?_, fun w' h1 h2 => ?_, fun k hk => ?_, fun k h1 h2 => ?_⟩
  · rw [lo _ (by omega)]; exact b' k h1 h2
  · rw [lo _ (by omega)] at h1
    obtain ⟨c1, c2, c3, c4⟩ := c k h1 h2
    exact ⟨by rw [lo _ (by omega)]; exact c1, by rw [lo _ (by omega)]; exact c2, fun o ho => ⟨by rw [lo _ (by omega)]; exact (c3 o ho).1, by rw [lo _ (by omega)]; exact (c3 o ho).2⟩, fun w' hw' => by rw [ldS_n (by omega) (by omega)]; exact c4 w' hw'⟩
  · rw [lo _ (by omega)] at hw
    rw [lo _ (by omega), lo _ (by omega), lo _ (by omega)]
    exact d w hw
  · unfold ldS
    by_cases z : k = 72 + 5 * w + q
    · rw [if_pos z]; omega
    · rw [if_neg z, if_neg (by omega)]; exact f k h1 h2
  · rw [lo _ (by omega)] at h1
    obtain ⟨g1, g2⟩ := g w' h1 h2
    exact ⟨by rw [lo _ (by omega)]; exact g1, fun k hk => by rw [ldS_n (by omega) (by omega)]; exact g2 k hk⟩
  · unfold ldS
    rw [if_neg (by omega)]
    by_cases z : 112 + 8 * (5 * w + q) ≤ 112 + k ∧ 112 + k < 120 + 8 * (5 * w + q)
    · rw [if_pos z]; omega
    · rw [if_neg z]; exact i k hk
  · rw [ldS_n (by omega) (by omega)]; exact j k h1 h2
theorem xor_bit : ∀ x, x < 32 → ∀ k, k < 5 → x.testBit k = false → x ^^^ 2 ^ k < 32 ∧ x ^^^ 2 ^ k = x + 2 ^ k := by decide
theorem rds_ld (H : TgOk σ nm) {w q : Nat} (hw : w < σ 2) (hq : q < σ 0) (h0 : σ (72 + 5 * w + q) = 0) : rds σ w ^^^ 2 ^ q = rds (ldS σ w q) w ∧ ∀ w', w' < 8 → w' ≠ w → rds (ldS σ w q) w' = rds σ w' := by
  have s5 := H.1.1
  have h8 := H.1.2.2.1
  refine ⟨?_, fun w' hw' hne => ?_⟩
  · have b := rds_bit H (w := w) (k := q) (by omega) (by omega)
    rw [h0] at b
    rw [(xor_bit _ (rds_lt H (by omega)) q (by omega) b).2]
    unfold rds
    rcases (show q = 0 ∨ q = 1 ∨ q = 2 ∨ q = 3 ∨ q = 4 by omega) with rfl | rfl | rfl | rfl | rfl
    · rw [show 72 + 5 * w = 72 + 5 * w + 0 from rfl, ldS_y, ldS_n (k := 73 + 5 * w) (by omega) (by omega), ldS_n (k := 74 + 5 * w) (by omega) (by omega), ldS_n (k := 75 + 5 * w) (by omega) (by omega), ldS_n (k := 76 + 5 * w) (by omega) (by omega), h0]
      omega
    · rw [show 73 + 5 * w = 72 + 5 * w + 1 by omega, ldS_y, ldS_n (k := 72 + 5 * w) (by omega) (by omega), ldS_n (k := 74 + 5 * w) (by omega) (by omega), ldS_n (k := 75 + 5 * w) (by omega) (by omega), ldS_n (k := 76 + 5 * w) (by omega) (by omega), h0]
      omega
    · rw [show 74 + 5 * w = 72 + 5 * w + 2 by omega, ldS_y, ldS_n (k := 72 + 5 * w) (by omega) (by omega), ldS_n (k := 73 + 5 * w) (by omega) (by omega), ldS_n (k := 75 + 5 * w) (by omega) (by omega), ldS_n (k := 76 + 5 * w) (by omega) (by omega), h0]
      omega
    · rw [show 75 + 5 * w = 72 + 5 * w + 3 by omega, ldS_y, ldS_n (k := 72 + 5 * w) (by omega) (by omega), ldS_n (k := 73 + 5 * w) (by omega) (by omega), ldS_n (k := 74 + 5 * w) (by omega) (by omega), ldS_n (k := 76 + 5 * w) (by omega) (by omega), h0]
      omega
    · rw [show 76 + 5 * w = 72 + 5 * w + 4 by omega, ldS_y, ldS_n (k := 72 + 5 * w) (by omega) (by omega), ldS_n (k := 73 + 5 * w) (by omega) (by omega), ldS_n (k := 74 + 5 * w) (by omega) (by omega), ldS_n (k := 75 + 5 * w) (by omega) (by omega), h0]
  · unfold rds
    rw [ldS_n (by omega) (by omega), ldS_n (by omega) (by omega), ldS_n (by omega) (by omega), ldS_n (by omega) (by omega), ldS_n (by omega) (by omega)]
theorem c_turnR {t w q x : Nat} (hw : w < 8) (hq : q < 5) (hc : h.1 (t + 8) w = nI x) : f_X10_turnReads t (nI w) (nI q) h = some (sI h (t + 8) w (nI (x ^^^ 2 ^ q))) := by
  unfold f_X10_turnReads
  rw [if_pos (inb_nI hw (by decide)), if_pos (inb_nI hw (by decide)), lt_s0, nI_clamp (by omega), hc, li_1, shl1 (by omega), fa_xor]
theorem mk_ld (H : TgOk σ nm) {w q : Nat} (hw : w < σ 2) (hq : q < σ 0) (h0 : σ (72 + 5 * w + q) = 0) {i : Nat} (hi : i < 320) : mk (ldS σ w q) i = mk σ i := by
  have s5 := H.1.1
  have h8 := H.1.2.2.1
  unfold mk
  by_cases hp : i / 8 = 5 * w + q
  · rw [hp, show 72 + (5 * w + q) = 72 + 5 * w + q by omega, ldS_y, if_pos rfl, h0, if_neg (by omega), show 112 + i = 112 + 8 * (5 * w + q) + i % 8 by omega, ldS_b (by omega) (by omega) (by omega)]
  · rw [ldS_n (by omega) (by omega), ldS_n (by omega) (by omega)]
theorem TgRep.ld {t w q : Nat} (T : TgRep h t σ nm) (H : TgOk σ nm) (hw : w < σ 2) (hq : q < σ 0) (h0 : σ (72 + 5 * w + q) = 0) : TgRep (sI h (t + 8) w (nI (rds (ldS σ w q) w))) t (ldS σ w q) nm := by
  have s5 := H.1.1
  have h8 := H.1.2.2.1
  obtain ⟨⟨a1, a2, a3, a4, a5⟩, b', c, ⟨d, d2⟩, f, ⟨g, g2⟩, k, m⟩ := T
  have lo : ∀ k, k < 72 → ldS σ w q k = σ k := fun k hk => ldS_n (by omega) (by omega)
  refine ⟨⟨by rw [sI_ne1 (by omega), lo _ (by omega)]; exact a1, by rw [sI_ne1 (by omega), lo _ (by omega)]; exact a2, by rw [sI_ne1 (by omega), lo _ (by omega)]; exact a3, by rw [sI_ne1 (by omega), lo _ (by omega)]; exact a4, by rw [sI_ne1 (by omega), lo _ (by omega)]; exact a5⟩, fun w' hw' => ?_, fun q' h1 h2 => ?_, ⟨fun q' hq' => ?_, ?_⟩, fun w' hw' => ?_, ⟨fun w' hw' => ?_, ?_⟩, fun i hi => ?_, fun hz i hi => ?_⟩
  · rw [lo _ (by omega)] at hw'
    rw [sI_ne1 (by omega)]
    exact b' w' hw'
  · rw [sI_ne1 (by omega), ldS_n (by omega) (by omega)]; exact c q' h1 h2
  · have : ahd (ldS σ w q) q' = ahd σ q' := by
      unfold ahd
      rw [lo _ (by omega), lo _ (by omega), lo _ (by omega), lo _ (by omega), lo _ (by omega), lo _ (by omega)]
    rw [this]; exact d q' hq'
  · have : ens (ldS σ w q) = ens σ := by
      unfold ens
      rw [lo _ (by omega), lo _ (by omega), lo _ (by omega), lo _ (by omega), lo _ (by omega)]
    rw [this]; exact d2
  · rw [lo _ (by omega)] at hw'
    rw [sI_ne1 (by omega), sI_ne1 (by omega), sI_ne1 (by omega), lo _ (by omega), lo _ (by omega), lo _ (by omega)]
    exact f w' hw'
  · by_cases z : w' = w
    · rw [z, sI_s]
    · rw [sI_nk1 z, (rds_ld H hw hq h0).2 w' hw' z]; exact g w' hw'
  · have : idl (ldS σ w q) = idl σ := by
      unfold idl
      rw [lo _ (by omega), lo _ (by omega), lo _ (by omega), lo _ (by omega), lo _ (by omega), lo _ (by omega), lo _ (by omega), lo _ (by omega)]
    rw [sI_ne1 (by omega), this]; exact g2
  · rw [sI_ne1 (by omega), mk_ld H hw hq h0 hi]; exact k i hi
  · rw [lo _ (by omega)] at hz
    have : mos (ldS σ w q) i = mos σ i := by
      unfold mos img4
      have h1 : i / 32 * 8 + i % 32 / 16 * 4 + 3 < 320 := by omega
      rw [mk_ld H hw hq h0 (by omega), mk_ld H hw hq h0 (by omega), mk_ld H hw hq h0 (by omega), mk_ld H hw hq h0 (by omega)]
    rw [sI_ne1 (by omega), this]; exact m hz i hi
/-- two TONGUES that read alike -/
def Rlk (τ τ' : Nat → Nat) : Prop := (∀ k, k < 112 → τ k = τ' k) ∧ ∀ p, p < 40 → τ (72 + p) = 1 → ∀ m, m < 8 → τ (112 + 8 * p + m) = τ' (112 + 8 * p + m)
theorem stp_rlk {τ' : Nat → Nat} (R : Rlk τ τ') (X : Nat) {w : Nat} (hw : w < 8) : stp τ X w = stp τ' X w := by
  unfold stp
  refine pk8_cong 5 (fun k hk => ?_)
  have ea : ain τ X k = ain τ' X k := by
    unfold ain
    refine ors_cong 6 (fun i hi => ?_)
    show (if fol τ i k = 1 then _ else _) = (if fol τ' i k = 1 then _ else _)
    unfold fol
    rw [R.1 (5 + k) (by omega), R.1 (15 + 5 * i + k) (by omega)]
  unfold stb
  rw [R.1 (72 + 5 * w + k) (by omega), ea]
  by_cases h1 : τ' (72 + 5 * w + k) = 1
  · rw [if_pos h1, if_pos h1]
    have hr : τ (72 + (5 * w + k)) = 1 := by rw [R.1 _ (by omega), ← h1]; congr 1; omega
    have b := R.2 (5 * w + k) (by omega) hr
    have b0 := b 0 (by omega)
    rw [Nat.add_zero] at b0
    unfold img img4
    dsimp only
    rw [b0, show 112 + (8 * (5 * w + k) + 1) = 112 + 8 * (5 * w + k) + 1 by omega, b 1 (by omega), show 112 + (8 * (5 * w + k) + 2) = 112 + 8 * (5 * w + k) + 2 by omega, b 2 (by omega), show 112 + (8 * (5 * w + k) + 3) = 112 + 8 * (5 * w + k) + 3 by omega, b 3 (by omega), show 112 + (8 * (5 * w + k) + 4) = 112 + 8 * (5 * w + k) + 4 by omega, b 4 (by omega), show 112 + (8 * (5 * w + k) + 4 + 1) = 112 + 8 * (5 * w + k) + 5 by omega, b 5 (by omega), show 112 + (8 * (5 * w + k) + 4 + 2) = 112 + 8 * (5 * w + k) + 6 by omega, b 6 (by omega), show 112 + (8 * (5 * w + k) + 4 + 3) = 112 + 8 * (5 * w + k) + 7 by omega, b 7 (by omega)]
  · rw [if_neg h1, if_neg h1]
theorem rs_rlk {τ' : Nat → Nat} (R : Rlk τ τ') (h8 : τ 2 ≤ 8) (hS : 0 < τ 2) (e r b n k : Nat) : rs τ e r b n k = rs τ' e r b n k := by
  have e2 : τ' 2 = τ 2 := (R.1 2 (by omega)).symm
  unfold rs rb run
  rw [e2]
  have hl : ∀ x ∈ lfr e r b (dig (τ 2) n k), x < 8 := lfr_mem e r b (fun x hx => by have := dig_lt hS n k x hx; omega)
  have key : ∀ (l : List Nat) (X : Nat), (∀ x ∈ l, x < 8) → l.foldl (stp τ) X = l.foldl (stp τ') X := by
    intro l
    induction l with
    | nil => intro X _; rw [List.foldl_nil, List.foldl_nil]
    | cons w l ih =>
      intro X hl
      rw [List.foldl_cons, List.foldl_cons, stp_rlk R X (hl w (List.mem_cons_self ..))]
      exact ih _ (fun x hx => hl x (List.mem_cons_of_mem _ hx))
  exact key _ 1099511627776 hl
theorem mnt_rlk {τ' : Nat → Nat} (R : Rlk τ τ') (X : Nat) : mnt τ X = mnt τ' X := by
  unfold mnt
  refine ors_cong 5 (fun i hi => ?_)
  show (if τ (10 + i) = 1 then _ else _) = _
  rw [R.1 (10 + i) (by omega)]
theorem syb_rlk {τ' : Nat → Nat} (R : Rlk τ τ') (h8 : τ 2 ≤ 8) (e r most : Nat) : syb τ e r most = syb τ' e r most := by
  have e2 : τ' 2 = τ 2 := (R.1 2 (by omega)).symm
  unfold syb
  rw [e2]
  refine ors_cong most (fun n _ => ?_)
  by_cases hS : 0 < τ 2
  · refine ors_cong _ (fun k _ => ?_)
    have em : mb τ e r (n + 1) k = mb τ' e r (n + 1) k := by
      funext b
      unfold mb
      rw [rs_rlk R h8 hS, mnt_rlk R]
    show agr τ e r (n + 1) k = agr τ' e r (n + 1) k
    unfold agr
    rw [em]
  · show ors _ (τ 2 ^ (n + 1)) = ors _ (τ 2 ^ (n + 1))
    rw [show τ 2 = 0 by omega, Nat.zero_pow (by omega)]
    show (0 : Nat) = 0
    rfl
end TO
