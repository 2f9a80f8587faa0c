section T7
variable {tp : List Nat} {σ τ : Nat → Nat} {nm : Nat → List Nat} {K : Im} {fd : List Nat} {fl : Nat} {tn : Option Tn} {h h' : Hp}
/-- loops downwards -/
theorem loopDn {β : Type} {F : (Int32 → Hp → Option β) → Int32 → Hp → Option β} {k : Hp → Option β} (n : Nat) (P : Nat → Hp → Prop) (hx : ∀ self h, P 0 h → F self (-1) h = k h) (hs : ∀ self i h, i < n → P (i + 1) h → ∃ h', F self (nI i) h = self (nI i + (-1)) h' ∧ P i h') (h : Hp) (h0 : P n h) (hn : n ≤ 1000000) : ∃ h', itr2 F N0 (nI n - 1) h = k h' ∧ P 0 h' := by
  refine itr2_loop (F := F) (fun r => ∃ h', r = k h' ∧ P 0 h') (fun d a h => d ≤ n ∧ a = nI d - 1 ∧ P d h) ?_ n (nI n - 1) h N0 (by have := N0_big; omega) ⟨by omega, rfl, h0⟩
  intro d self a h ⟨h1, h2, h3⟩
  subst h2
  cases d with
  | zero => exact Or.inl ⟨h, hx self h h3, h3⟩
  | succ i =>
    rw [nI_pred]
    obtain ⟨h', e1, e2⟩ := hs self i h (by omega) h3
    exact Or.inr ⟨i, nI i - 1, h', by omega, ⟨by omega, rfl, e2⟩, by rw [e1, Int32.sub_eq_add_neg]⟩
theorem loopDn3 {A β : Type} {F : (A → Int32 → Hp → Option β) → A → Int32 → Hp → Option β} {k : A → Hp → Option β} (n : Nat) (P : Nat → A → Hp → Prop) (hx : ∀ self a h, P 0 a h → F self a (-1) h = k a h) (hs : ∀ self i a h, i < n → P (i + 1) a h → ∃ a' h', F self a (nI i) h = self a' (nI i + (-1)) h' ∧ P i a' h') (a : A) (h : Hp) (h0 : P n a h) (hn : n ≤ 1000000) : ∃ a' h', itr3 F N0 a (nI n - 1) h = k a' h' ∧ P 0 a' h' := by
  refine itr3_loop (F := F) (fun r => ∃ a' h', r = k a' h' ∧ P 0 a' h') (fun d b a h => d ≤ n ∧ a = nI d - 1 ∧ P d b h) ?_ n a (nI n - 1) h N0 (by have := N0_big; omega) ⟨by omega, rfl, h0⟩
  intro d self b a h ⟨h1, h2, h3⟩
  subst h2
  cases d with
  | zero => exact Or.inl ⟨b, h, hx self b h h3, h3⟩
  | succ i =>
    rw [nI_pred]
    obtain ⟨b', h', e1, e2⟩ := hs self i b h (by omega) h3
    exact Or.inr ⟨i, b', nI i - 1, h', by omega, ⟨by omega, rfl, e2⟩, by rw [e1, Int32.sub_eq_add_neg]⟩
theorem m_count46 {l : List Nat} {i k : Nat} (ms : ∀ k, k < 713 → h.1 157 k = nI (σ k)) (h27 : h.1 155 27 = nI l.length) (hl : l.length ≤ 24) (hi : i < l.length) (hk : k < 5) (H : TgOk σ nm) (hc : i + 1 < l.length → ∀ o, o < 5 → h.2.1 167 (5 * (i + 1) + o) = lN (Bk σ l (i + 1) o)) (kk : Int64 → Hp → Option Hp) : itr3 (F_X13_count_46 (nI i) (nI k) kk) N0 (if i + 1 = l.length then lN (σ (10 + k)) else lN 0) 0 h = kk (lN (G σ (l.drop (i + 1)) k)) h := by
  have p1 : nI l.length - 1 = nI (l.length - 1) := by rw [li_1, subN (by omega)]
  by_cases h1 : i + 1 = l.length
  · rw [if_pos h1, G_end (by omega), if_neg (by omega)]
    refine sq3 0 (fun _ => lN (σ (10 + k))) (fun i => nI i) (fun _ => h) (fun self => ?_) (fun self i hi => by omega) (by omega) rfl rfl rfl
    unfold F_X13_count_46
    rw [if_neg (by decide), h27, p1, if_pos (nI_le (by omega) (by omega))]
  · rw [if_neg h1, G_at (by omega)]
    refine sq3 5 (fun o => lN (sm (fun o => fol σ k o * Bk σ l (i + 1) o) o)) (fun i => nI i) (fun _ => h) (fun self => ?_) (fun self o ho => ?_) (by omega) rfl rfl rfl
    · unfold F_X13_count_46
      rw [if_pos (by decide)]
    · have fe : fol σ k o = σ (15 + 5 * k + o) := if_neg (by omega)
      have f1 := H.2.1 (15 + 5 * k + o) (by omega) (by omega)
      have hsum : sm (fun o => fol σ k o * Bk σ l (i + 1) o) (o + 1) = sm (fun o => fol σ k o * Bk σ l (i + 1) o) o + fol σ k o * Bk σ l (i + 1) o := rfl
      unfold F_X13_count_46
      rw [li_5, if_neg (nI_ge ho (by omega)), h27, p1, if_neg (nI_ge (by omega) (by omega)), li_15, pk_mul, nI_add, nI_add, if_pos (inb_nI (by omega) (by decide)), nI_clamp (by omega), ms _ (by omega), hsum, fe]
      by_cases h2 : σ (15 + 5 * k + o) = 1
      · rw [h2, if_pos (by decide), nI_1, pk_mul, nI_add, if_pos (inb_nI (by omega) (by decide)), lt_s0, nI_clamp (by omega), hc (by omega) o ho, lN_add, Nat.one_mul, nI_1]
      · rw [if_neg (show ¬ nI (σ (15 + 5 * k + o)) = 1 from fun z => h2 ((nI_eq (b := 1) (by omega) (by omega)).mp z)), show (0 : Int64) = lN 0 from rfl, lN_add, show σ (15 + 5 * k + o) = 0 by omega, Nat.zero_mul, nI_1]
theorem m_count {l : List Nat} (ms : ∀ k, k < 713 → h.1 157 k = nI (σ k)) (h27 : h.1 155 27 = nI l.length) (hf : lsI (h.1 162) l) (hl : l.length ≤ 24) (hw : ∀ x ∈ l, x < 8) (H : TgOk σ nm) : ∃ h', f_X13_count h = some h' ∧ Same [167] h h' ∧ h'.1 = h.1 ∧ ∀ i, i < l.length → ∀ k, k < 5 → h'.2.1 167 (5 * i + k) = lN (Bk σ l i k) := by
  obtain ⟨g, e, p1, p2, p3⟩ := loopDn (F := F_X13_count_7 (fun h23 => some h23)) (k := fun h23 => some h23) l.length (fun i g => Same [167] h g ∧ g.1 = h.1 ∧ ∀ j, i ≤ j → j < l.length → ∀ k, k < 5 → g.2.1 167 (5 * j + k) = lN (Bk σ l j k)) (fun self g _ => by
      unfold F_X13_count_7
      rw [if_pos (by decide)]) (fun self i g hi ⟨q1, q2, q3⟩ => by
      have wi : l.getD i 0 < 8 := getD_P hi hw
      obtain ⟨g2, f2, r1, r2, r3⟩ := loop2n (F := F_X13_count_13 (nI i) (fun h22 => self (nI i + (-1)) h22)) (k := fun h22 => self (nI i + (-1)) h22) 5 (fun k q => Same [167] h q ∧ q.1 = h.1 ∧ ∀ a, q.2.1 167 a = if 5 * i ≤ a ∧ a < 5 * i + k then lN (Bk σ l i (a - 5 * i)) else g.2.1 167 a) (fun self q _ => by
          unfold F_X13_count_13
          rw [if_pos (by decide)]) (fun self k q hk ⟨y1, y2, y3⟩ => by
          have ms' : ∀ k, k < 713 → q.1 157 k = nI (σ k) := fun k hk => by rw [y2]; exact ms k hk
          have f1 := H.2.1 (10 + k) (by omega) (by omega)
          have f3 := H.2.2.2.2.1 (72 + 5 * l.getD i 0 + k) (by omega) (by omega)
          have c46 := m_count46 (h := q) (i := i) (k := k) ms' (by rw [y2]; exact h27) hl hi hk H (fun h1 o ho => by
            rw [y3, if_neg (by omega)]
            exact q3 (i + 1) (by omega) h1 o ho)
          have q162 : q.1 162 i = nI (l.getD i 0) := by rw [y2]; exact hf i hi
          have bb : ∀ self : Int32 → Hp → Option Hp, ∀ k149, B_X13_count_106 (nI i) k149 self (nI k) (lN (G σ (l.drop (i + 1)) k)) q = self (nI (k + 1)) (sL q 167 (5 * i + k) (lN (Bk σ l i k))) := fun self k149 => by
            have b142 : ∀ v : Int64, B_X13_count_142 (nI i) k149 self (nI k) v (5 * nI i + nI k) q = self (nI (k + 1)) (sL q 167 (5 * i + k) v) := fun v => by
              unfold B_X13_count_142
              rw [li_5, pk_mul, nI_add, if_pos (inb_nI (by omega) (by decide)), lt_s0, nI_clamp (by omega), nI_1]
            unfold B_X13_count_106
            rw [if_pos (inb_nI (by omega) (by decide)), nI_clamp (by omega), q162, b142, b142, li_72, li_5, pk_mul, nI_add, nI_add, if_pos (inb_nI (by omega) (by decide)), nI_clamp (by omega), ms' _ (by omega)]
            unfold Bk
            by_cases h2 : σ (72 + 5 * l.getD i 0 + k) = 1
            · rw [h2, if_pos (by decide), Nat.one_mul]
            · rw [if_neg (show ¬ nI (σ (72 + 5 * l.getD i 0 + k)) = 1 from fun z => h2 ((nI_eq (b := 1) (by omega) (by omega)).mp z)), show σ (72 + 5 * l.getD i 0 + k) = 0 by omega, Nat.zero_mul]
              rfl
          refine ⟨sL q 167 (5 * i + k) (lN (Bk σ l i k)), ?_, y1.tr (Same.ofL (by decide)), y2, fun a => ?_⟩
          · unfold F_X13_count_13
            rw [li_5, if_neg (nI_ge hk (by omega)), y2, h27, show nI l.length - 1 = nI (l.length - 1) by rw [li_1, subN (by omega)]]
            by_cases h1 : i + 1 = l.length
            · simp only [if_pos h1] at c46
              rw [if_pos (show nI i = nI (l.length - 1) by rw [show l.length - 1 = i by omega]), li_10, nI_add, if_pos (inb_nI (by omega) (by decide)), lt_s0, nI_clamp (by omega), ms _ (by omega), ItoL (by omega), c46, bb]
            · simp only [if_neg h1] at c46
              rw [if_neg (show ¬ nI i = nI (l.length - 1) from fun z => h1 (by have := (nI_eq (by omega) (by omega)).mp z; omega))]
              show itr3 _ N0 (lN 0) 0 q = _
              rw [c46, bb]
          · rw [sL2]
            by_cases ha : a = 5 * i + k
            · subst ha
              rw [if_pos ⟨rfl, rfl⟩, if_pos (by omega), show 5 * i + k - 5 * i = k by omega]
            · rw [if_neg (fun z => ha z.2), y3 a]
              by_cases hb : 5 * i ≤ a ∧ a < 5 * i + k
              · rw [if_pos hb, if_pos (by omega)]
              · rw [if_neg hb, if_neg (by omega)]) g ⟨q1, q2, fun a => by rw [if_neg (by omega)]⟩ (by omega)
      refine ⟨g2, ?_, r1, r2, fun j hj1 hj2 k hk => ?_⟩
      · unfold F_X13_count_7
        rw [if_neg (nI_pos (by omega)), li_0, f2]
      · rw [r3]
        by_cases hj : j = i
        · subst hj
          rw [if_pos (by omega), show 5 * j + k - 5 * j = k by omega]
        · rw [if_neg (by omega)]
          exact q3 j (by omega) hj2 k hk) h ⟨Same.rf, rfl, fun j h1 h2 => by omega⟩ (by omega)
  refine ⟨g, ?_, p1, p2, fun i hi k hk => p3 i (by omega) hi k hk⟩
  unfold f_X13_count
  rw [lt_s0, h27, e]
theorem st_readings (x : Int32) (hI : Inv h) : ∃ v h1 h2, f_X12_readings x h = some (v, h1) ∧ f_X13_readings x h1 = some (v, h2) ∧ Inv h2 := by
  obtain ⟨tp, σ, nm, K, fd, fl, tn, hA, hC, hM⟩ := hI
  have hS := hA.2.1
  have H := hS.1
  have h8 := H.1.2.2.1
  have e5' := H.1.2.2.2.2.1
  have t3 : h.1 9 0 = nI (σ 3) := hC.2.1.1.1.2.2.2.1
  rcases c_begAll x t3 (by omega) with ⟨b, hb, rfl, c1⟩ | ⟨c1, hb⟩
  · obtain ⟨g, s1, s2, s3, s4⟩ := c_strike (b := b) hA hC (by omega)
    have C1 := hC.scr2 hA s4 (by decide)
    have ln := TX_len hS b
    have lm : ∀ x ∈ TX σ b, x < 8 := fun x hx => by have := TX_mem hS b x hx; omega
    obtain ⟨g2, f2, a1, a2⟩ := c_countReadings (t := 7) (r := 114) (l := TX σ b) C1.2.1.1 H (by omega) s2 s3 lm (show _ ≤ 24 from ln) (by decide)
    have C2 := C1.scr2 hA a1 (by decide)
    have M1 := ((hM.hi (s4.hi (by decide))).hi (a1.hi (by decide))).keep (th_Eq 0)
    obtain ⟨h2, e2, l1, l2, M2, L2⟩ := m_leftT (b := b) M1 hS hb
    obtain ⟨h3, e3, b1, b2, b3⟩ := m_count (l := TX σ b) M2.2.1 l1 l2 ln lm H
    have M3 := M2.scr b1 (by decide)
    refine ⟨lN (G σ (TX σ b) 5), g2, h3, ?_, ?_, tp, σ, nm, K, fd, fl, tn, hA, C2.lo hA ((th_Lo 0).tr (L2.tr (b1.lo (by decide)))), M3⟩
    · unfold f_X12_readings
      rw [c1, bndS, if_neg (by decide), s1, bndS, if_pos (by decide), f2, bndS]
    · unfold f_X13_readings
      rw [lt_s0, m_begT (M1.2.1 3 (by omega)) (by omega) hb, bndS, if_neg (by decide), e2, bnvS, e3, bnvS]
      have l1' : h3.1 155 27 = nI (TX σ b).length := by rw [b2]; exact l1
      by_cases h0 : (TX σ b).length = 0
      · have eG : G σ (TX σ b) 5 = 0 := by rw [List.length_eq_zero_iff.mp h0]; rfl
        rw [eG]
        refine sq3 0 (fun _ => lN 0) (fun i => nI i) (fun _ => h3) (fun self => ?_) (fun self i hi => by omega) (by omega) rfl rfl rfl
        unfold F_X13_readings_31
        rw [if_neg (by decide), l1', h0, if_pos (by decide)]
      · have eG : G σ (TX σ b) 5 = sm (fun k => fol σ 5 k * Bk σ (TX σ b) 0 k) 5 := by
          have := G_at (σ := σ) (l := TX σ b) (i := 0) (by omega) 5
          rw [List.drop_zero] at this
          exact this
        rw [eG]
        refine sq3 5 (fun o => lN (sm (fun k => fol σ 5 k * Bk σ (TX σ b) 0 k) o)) (fun i => nI i) (fun _ => h3) (fun self => ?_) (fun self o ho => ?_) (by omega) rfl rfl rfl
        · unfold F_X13_readings_31
          rw [if_pos (by decide)]
        · have fe : fol σ 5 o = σ (5 + o) := if_pos rfl
          have f1 := H.2.1 (5 + o) (by omega) (by omega)
          have hsum : sm (fun k => fol σ 5 k * Bk σ (TX σ b) 0 k) (o + 1) = sm (fun k => fol σ 5 k * Bk σ (TX σ b) 0 k) o + fol σ 5 o * Bk σ (TX σ b) 0 o := rfl
          have bb := b3 0 (by omega) o ho
          rw [show 5 * 0 + o = o by omega] at bb
          unfold F_X13_readings_31
          rw [li_5, if_neg (nI_ge ho (by omega)), l1', if_neg (show ¬ nI (TX σ b).length ≤ (0 : Int32) from nI_ge (a := 0) (by omega) (by omega)), nI_add, if_pos (inb_nI (by omega) (by decide)), nI_clamp (by omega), M3.2.1 _ (by omega), hsum, fe]
          by_cases h2 : σ (5 + o) = 1
          · rw [h2, if_pos (by decide), if_pos (inb_nI (by omega) (by decide)), lt_s0, nI_clamp (by omega), bb, lN_add, Nat.one_mul, nI_1]
          · rw [if_neg (show ¬ nI (σ (5 + o)) = 1 from fun z => h2 ((nI_eq (b := 1) (by omega) (by omega)).mp z)), show (0 : Int64) = lN 0 from rfl, lN_add, show σ (5 + o) = 0 by omega, Nat.zero_mul, nI_1]
  · have M1 := hM.keep (th_Eq 0)
    refine ⟨-1, h, sI h 155 0 0, ?_, ?_, tp, σ, nm, K, fd, fl, tn, hA, hC.lo hA (th_Lo 0), M1⟩
    · unfold f_X12_readings
      rw [c1, bndS, if_pos (by decide)]
    · unfold f_X13_readings
      rw [lt_s0, m_begF (M1.2.1 3 (by omega)) (by omega) hb, bndS, if_pos (by decide)]
/-! the first READING -/
def cnb (σ : Nat → Nat) (l : List Nat) (i k : Nat) : Bool := decide (σ (72 + 5 * l.getD i 0 + k) = 1) && decide (G σ (l.drop (i + 1)) k ≠ 0)
theorem Bk_cnb (H : TgOk σ nm) {l : List Nat} {i k : Nat} (hw : l.getD i 0 < 8) (hk : k < 5) : (Bk σ l i k ≠ 0) = (cnb σ l i k = true) := by
  have f3 := H.2.2.2.2.1 (72 + 5 * l.getD i 0 + k) (by omega) (by omega)
  unfold Bk cnb
  apply propext
  rw [mul01 f3, Bool.and_eq_true, decide_eq_true_eq, decide_eq_true_eq]
  by_cases h1 : σ (72 + 5 * l.getD i 0 + k) = 1
  · rw [if_pos h1]
    exact ⟨fun z => ⟨h1, z⟩, fun z => z.2⟩
  · rw [if_neg h1]
    exact ⟨fun z => absurd rfl z, fun z => absurd z.1 h1⟩
/-- which comes next behind o -/
def gop (σ : Nat → Nat) (l : List Nat) (i o k : Nat) : Bool := decide (fol σ o k = 1) && cnb σ l i k
theorem gop_G (H : TgOk σ nm) {l : List Nat} {i o : Nat} (hi : i < l.length) (hw : l.getD i 0 < 8) (ho : o < 6) : G σ (l.drop i) o ≠ 0 ↔ ∃ k, k < 5 ∧ gop σ l i o k = true := by
  rw [G_at hi, sm_ne]
  constructor
  · intro ⟨k, h1, h2⟩
    have f := H.fl ho h1
    have h2' : fol σ o k * Bk σ l i k ≠ 0 := h2
    rw [mul01 f] at h2'
    refine ⟨k, h1, ?_⟩
    unfold gop
    by_cases h3 : fol σ o k = 1
    · rw [if_pos h3, Bk_cnb H hw h1] at h2'
      rw [h2', decide_eq_true h3]
      rfl
    · rw [if_neg h3] at h2'
      exact absurd rfl h2'
  · intro ⟨k, h1, h2⟩
    refine ⟨k, h1, ?_⟩
    unfold gop at h2
    rw [Bool.and_eq_true, decide_eq_true_eq] at h2
    show fol σ o k * Bk σ l i k ≠ 0
    rw [h2.1, Nat.one_mul, Bk_cnb H hw h1]
    exact h2.2
theorem cnb_s0 (H : TgOk σ nm) {l : List Nat} {i k : Nat} (hw : l.getD i 0 < 8) (h1 : σ 0 ≤ k) (h2 : k < 5) : cnb σ l i k = false := by
  unfold cnb
  rw [(H.2.2.1 k h1 h2).2.2.2 _ hw]
  rfl
/-- the first of n, or -1 -/
def fi (p : Nat → Bool) (n : Nat) : Int32 := if fst p n < n then nI (fst p n) else -1
theorem fst_ext {p : Nat → Bool} (n : Nat) : ∀ m, n ≤ m → (∀ k, n ≤ k → k < m → p k = false) → (fst p n < n → fst p m = fst p n) ∧ (¬ fst p n < n → fst p m = m)
  | 0, h1, h2 => by
    have : n = 0 := by omega
    subst this
    exact ⟨fun z => by omega, fun _ => rfl⟩
  | m + 1, h1, h2 => by
    by_cases h3 : n = m + 1
    · subst h3
      exact ⟨fun _ => rfl, fun z => by have := (fst_spec p (m + 1)).1; omega⟩
    · obtain ⟨a, b⟩ := fst_ext n m (by omega) (fun k h4 h5 => h2 k h4 (by omega))
      refine ⟨fun z => ?_, fun z => ?_⟩
      · have := a z
        show (if fst p m < m then fst p m else if p m = true then m else m + 1) = _
        rw [if_pos (by omega)]
        exact this
      · have := b z
        show (if fst p m < m then fst p m else if p m = true then m else m + 1) = _
        rw [if_neg (by omega), h2 m (by omega) (by omega)]
        rfl
theorem fi_ext {p : Nat → Bool} {n m : Nat} (h1 : n ≤ m) (h2 : ∀ k, n ≤ k → k < m → p k = false) : fi p n = fi p m := by
  obtain ⟨a, b⟩ := fst_ext n m h1 h2
  unfold fi
  by_cases h3 : fst p n < n
  · rw [if_pos h3, a h3, if_pos (by omega)]
  · rw [if_neg h3, b h3, if_neg (by omega)]
theorem fi_some {p : Nat → Bool} {n : Nat} (hn : n ≤ 1000) (hx : ∃ k, k < n ∧ p k = true) : fst p n < n ∧ p (fst p n) = true ∧ fi p n = nI (fst p n) := by
  obtain ⟨a, b, c⟩ := fst_spec p n
  have lt : fst p n < n := by
    apply Classical.byContradiction
    intro z
    obtain ⟨k, h1, h2⟩ := hx
    have := b k (by omega)
    rw [this] at h2
    cases h2
  exact ⟨lt, c lt, if_pos lt⟩
theorem fi_none {p : Nat → Bool} {n : Nat} (hx : ∀ k, k < n → p k = false) : fi p n = -1 := by
  unfold fi
  rw [if_neg]
  intro z
  have := (fst_spec p n).2.2 z
  rw [hx _ z] at this
  cases this
theorem c_firstBehind {t o : Nat} {p : Nat → Bool} (T : TgRep h t σ nm) (H : TgOk σ nm) (ho : o < 6) : f_X3_firstBehind t (nI o) (nI (bts p (σ 0))) h = some (fi (fun k => decide (fol σ o k = 1) && p k) (σ 0), h) := by
  have s5 := H.1.1
  obtain ⟨a, b, c⟩ := fst_spec (fun k => decide (fol σ o k = 1) && p k) (σ 0)
  have bl : bts p (σ 0) < 64 := Nat.lt_of_lt_of_le (bts_lt _) (Nat.pow_le_pow_right (by decide) (show σ 0 ≤ 6 by omega))
  have bit : ∀ k, k < σ 0 → jshr (nI (bts p (σ 0))) (nI k) &&& 1 = nI (p k).toNat := fun k hk => by
    rw [li_1, bitN (by omega) (by omega), bts_bit, decide_eq_true hk, Bool.true_and]
  unfold f_X3_firstBehind fi
  rw [li_0]
  refine sq2 (fst (fun k => decide (fol σ o k = 1) && p k) (σ 0)) (fun i => nI i) (fun _ => h) (fun self => ?_) (fun self i hi => ?_) (by omega) rfl rfl
  · unfold F_X3_firstBehind_2
    by_cases h1 : fst (fun k => decide (fol σ o k = 1) && p k) (σ 0) < σ 0
    · have c1 := c h1
      rw [if_pos h1, T.1.1, if_neg (nI_ge h1 (by omega)), bit _ h1, c_mayFollow T H ho (by omega)]
      generalize fst (fun k => decide (fol σ o k = 1) && p k) (σ 0) = q at *
      rw [Bool.and_eq_true] at c1
      rw [c1.1, c1.2]
      rfl
    · have h2 : fst (fun k => decide (fol σ o k = 1) && p k) (σ 0) = σ 0 := by omega
      rw [if_neg h1, h2, T.1.1, if_pos (nI_le (Nat.le_refl _) (by omega))]
  · have b1 := b i hi
    unfold F_X3_firstBehind_2
    rw [T.1.1, if_neg (nI_ge (by omega) (by omega)), bit _ (by omega), c_mayFollow T H ho (by omega), nI_1]
    cases h1 : p i
    · rfl
    · rw [h1, Bool.and_true] at b1
      rw [b1]
      rfl
end T7
