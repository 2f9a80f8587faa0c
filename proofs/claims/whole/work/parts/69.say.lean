section TN
variable {tp : List Nat} {σ τ : Nat → Nat} {nm nm2 : Nat → List Nat} {K : Im} {fd : List Nat} {fl : Nat} {tn : Option Tn} {h h' : Hp}
/-! SAYABLE -/
def mb (τ : Nat → Nat) (e r n k b : Nat) : Nat := mnt τ (rs τ e r b n k)
theorem mb_lt (e r n k b : Nat) : mb τ e r n k b < 256 := mnt_lt _
/-- the one MEANING by each beginning, as a bit -/
def agr (τ : Nat → Nat) (e r n k : Nat) : Nat := if (allP (fun b => decide (mb τ e r n k b = mb τ e r n k 1)) 2 (e - 1) && decide (pop (mb τ e r n k 1) = 1)) = true then mb τ e r n k 1 else 0
theorem agr_lt (e r n k : Nat) : agr τ e r n k < 256 := by
  unfold agr
  by_cases h1 : (allP (fun b => decide (mb τ e r n k b = mb τ e r n k 1)) 2 (e - 1) && decide (pop (mb τ e r n k 1) = 1)) = true
  · rw [if_pos h1]; exact mb_lt ..
  · rw [if_neg h1]; decide
theorem pop_0 : pop 0 = 0 := by decide
theorem agr_dead {e r n k b : Nat} (hb1 : 1 ≤ b) (hb2 : b ≤ e) (hz : rs τ e r b n k = 0) : agr τ e r n k = 0 := by
  have m0 : mb τ e r n k b = 0 := by unfold mb; rw [hz, mnt_0]
  unfold agr
  rw [if_neg]
  rw [Bool.and_eq_true, decide_eq_true_eq, allP_t]
  intro ⟨a1, a2⟩
  have : mb τ e r n k 1 = 0 := by
    by_cases h1 : b = 1
    · rw [← h1]; exact m0
    · have := of_decide_eq_true (a1 (b - 2) (by omega))
      rw [show 2 + (b - 2) = b by omega, m0] at this
      exact this.symm
  rw [this, pop_0] at a2
  omega
theorem agr_0 (e r P : Nat) : agr τ e r 0 P = 0 := by
  have m0 : mb τ e r 0 P 1 = 0 := by
    unfold mb
    rw [rs_0]
    have e : ∀ o, o < 5 → byo 1099511627776 o = 0 := by decide
    unfold mnt
    simp only [ors]
    rw [e 0 (by omega), e 1 (by omega), e 2 (by omega), e 3 (by omega), e 4 (by omega)]
    simp
  unfold agr
  rw [m0, pop_0, if_neg (by simp)]
theorem c_agreed {e r d P : Nat} {ln : Int32} (B : WB τ nm e r (gw 9 10) none ln h) (L : WL τ e r (gw 9 10) none d P h) (H : TgOk τ nm) (e0 : 0 < e) (he : e ≤ 5) (hd : d ≤ 13) (hS : d = 0 ∨ 0 < τ 2) : f_X11_agreed (nI d) h = some (nI (agr τ e r d P), h) := by
  have ml := fun b => mb_lt (τ := τ) e r d P b
  have st : ∀ b, 1 ≤ b → b ≤ e → ∀ (x2 : Int32) self, F_X11_agreed_4 (nI d) (fun h14 => some (0, h14)) (fun v16 h15 => some (v16, h15)) self x2 (nI b) h = (if pop (mb τ e r d P b) = 1 then (if x2 = 0 then self (nI (mb τ e r d P b)) (nI (b + 1)) h else if x2 = nI (mb τ e r d P b) then self (nI (mb τ e r d P b)) (nI (b + 1)) h else some (0, h)) else some (0, h)) := fun b hb1 hb2 x2 self => by
    have c := L.2.1 d (Nat.le_refl _) b hb2 (by unfold gw; rw [if_neg (by omega)]; omega)
    rw [up_self] at c
    have gb : h.1 127 b = nI 10 := by rw [B.2.2.2.2 b hb2]; unfold gw; rw [if_neg (by omega)]
    have pl := pop_le _ (ml b)
    unfold F_X11_agreed_4
    rw [B.2.2.1.1, if_neg (nI_nlt hb2 (by omega)), if_pos (inb_nI (by omega) (by decide)), nI_clamp (by omega), gb, if_neg (by decide), lt_s0, B.2.1.1, if_pos (by decide), li_6, pk_mul, nI_add, if_pos (inb_nI (by omega) (by decide)), nI_clamp (by omega), c, c_meant B.1 H (rs_le' H e r b d P hS), bndS]
    show bnd (f_J6_bitCount_0f7a4 (nI (mb τ e r d P b)) h) _ = _
    rw [c_bc (ml b), bndS, nI_1]
    by_cases h1 : pop (mb τ e r d P b) = 1
    · rw [if_pos h1, h1, if_pos (by decide)]
      rfl
    · rw [if_neg h1, if_neg (show ¬ nI (pop (mb τ e r d P b)) = 1 from fun z => h1 ((nI_eq (b := 1) (by omega) (by omega)).mp z))]
  have s0 : ∀ (x2 : Int32) self, F_X11_agreed_4 (nI d) (fun h14 => some (0, h14)) (fun v16 h15 => some (v16, h15)) self x2 (nI 0) h = self x2 (nI 1) h := fun x2 self => by
    have gb : h.1 127 0 = nI 9 := B.2.2.2.2 0 (by omega)
    unfold F_X11_agreed_4
    rw [B.2.2.1.1, if_neg (nI_nlt (by omega) (by omega)), if_pos (inb_nI (by omega) (by decide)), nI_clamp (by omega), gb, if_pos (by decide)]
    rfl
  have nz : ∀ v, pop v = 1 → v ≠ 0 := fun v hv z => by rw [z, pop_0] at hv; omega
  unfold f_X11_agreed agr
  by_cases h1 : pop (mb τ e r d P 1) = 1
  · by_cases h2 : allP (fun b => decide (mb τ e r d P b = mb τ e r d P 1)) 2 (e - 1) = true
    · rw [h2, h1]
      refine sq3 (e + 1) (fun i => if i ≤ 1 then nI 0 else nI (mb τ e r d P 1)) (fun i => nI i) (fun _ => h) (fun self => ?_) (fun self i hi => ?_) (by omega) rfl rfl rfl
      · unfold F_X11_agreed_4
        rw [B.2.2.1.1, if_pos (nI_lt (by omega) (by omega)), if_neg (by omega)]
        rfl
      · by_cases i0 : i = 0
        · rw [i0, if_pos (by omega), if_pos (by omega)]
          exact s0 _ self
        · by_cases i1 : i = 1
          · rw [i1, if_pos (by omega), if_neg (by omega)]
            have := st 1 (by omega) (by omega) (nI 0) self
            rw [this, if_pos h1, if_pos (show nI 0 = 0 from rfl)]
          · have ei := of_decide_eq_true (allP_t.mp h2 (i - 2) (by omega))
            rw [show 2 + (i - 2) = i by omega] at ei
            have := st i (by omega) (by omega) (nI (mb τ e r d P 1)) self
            rw [if_neg (by omega), if_neg (by omega)]
            rw [this, ei, if_pos h1, if_neg (show ¬ nI (mb τ e r d P 1) = 0 from fun z => nz _ h1 ((nI_eq (b := 0) (by have := ml 1; omega) (by omega)).mp z)), if_pos rfl]
    · rw [Bool.eq_false_iff.mpr h2, Bool.false_and, if_neg (by decide)]
      have hex : ∃ j, j < e - 1 ∧ ¬ mb τ e r d P (2 + j) = mb τ e r d P 1 := by
        apply Classical.byContradiction
        intro hc
        exact h2 (allP_t.mpr (fun i hi => decide_eq_true (Classical.byContradiction fun z => hc ⟨i, hi, z⟩)))
      obtain ⟨j, ⟨j1, j2⟩, j3⟩ := pk_least (fun j => j < e - 1 ∧ ¬ mb τ e r d P (2 + j) = mb τ e r d P 1) hex
      refine sq3 (2 + j) (fun i => if i ≤ 1 then nI 0 else nI (mb τ e r d P 1)) (fun i => nI i) (fun _ => h) (fun self => ?_) (fun self i hi => ?_) (by omega) rfl rfl rfl
      · have := st (2 + j) (by omega) (by omega) (nI (mb τ e r d P 1)) self
        rw [if_neg (by omega)]
        rw [this]
        by_cases h3 : pop (mb τ e r d P (2 + j)) = 1
        · rw [if_pos h3, if_neg (show ¬ nI (mb τ e r d P 1) = 0 from fun z => nz _ h1 ((nI_eq (b := 0) (by have := ml 1; omega) (by omega)).mp z)), if_neg (fun z => j2 ((nI_eq (by have := ml 1; omega) (by have := ml (2 + j); omega)).mp z).symm)]
          rfl
        · rw [if_neg h3]
          rfl
      · by_cases i0 : i = 0
        · rw [i0, if_pos (by omega), if_pos (by omega)]
          exact s0 _ self
        · by_cases i1 : i = 1
          · rw [i1, if_pos (by omega), if_neg (by omega)]
            have := st 1 (by omega) (by omega) (nI 0) self
            rw [this, if_pos h1, if_pos (show nI 0 = 0 from rfl)]
          · have ei : mb τ e r d P i = mb τ e r d P 1 := Classical.byContradiction fun z => j3 (i - 2) (by omega) ⟨by omega, by rw [show 2 + (i - 2) = i by omega]; exact z⟩
            have := st i (by omega) (by omega) (nI (mb τ e r d P 1)) self
            rw [if_neg (by omega), if_neg (by omega)]
            rw [this, ei, if_pos h1, if_neg (show ¬ nI (mb τ e r d P 1) = 0 from fun z => nz _ h1 ((nI_eq (b := 0) (by have := ml 1; omega) (by omega)).mp z)), if_pos rfl]
  · rw [decide_eq_false h1, Bool.and_false, if_neg (by decide)]
    refine sq3 1 (fun i => nI 0) (fun i => nI i) (fun _ => h) (fun self => ?_) (fun self i hi => ?_) (by omega) rfl rfl rfl
    · have := st 1 (by omega) (by omega) (nI 0) self
      rw [this, if_neg h1]
      rfl
    · rw [show i = 0 by omega]
      exact s0 _ self
/-! all rows together -/
def syb (τ : Nat → Nat) (e r most : Nat) : Nat := ors (fun n => ors (fun k => agr τ e r (n + 1) k) (τ 2 ^ (n + 1))) most
theorem ors_bit (f : Nat → Nat) (i : Nat) : ∀ n, (ors f n).testBit i = true ↔ ∃ j, j < n ∧ (f j).testBit i = true
  | 0 => by
    show Nat.testBit 0 i = true ↔ _
    rw [Nat.zero_testBit]
    exact ⟨fun z => (by cases z), fun ⟨j, h1, _⟩ => absurd h1 (Nat.not_lt_zero _)⟩
  | n + 1 => by
    show (ors f n ||| f n).testBit i = true ↔ _
    rw [Nat.testBit_or, Bool.or_eq_true, ors_bit f i n]
    constructor
    · rintro (⟨j, h1, h2⟩ | h1)
      · exact ⟨j, by omega, h2⟩
      · exact ⟨n, by omega, h1⟩
    · intro ⟨j, h1, h2⟩
      by_cases h3 : j = n
      · rw [h3] at h2; exact Or.inr h2
      · exact Or.inl ⟨j, by omega, h2⟩
theorem syb_bit (e r most i : Nat) : (syb τ e r most).testBit i = true ↔ ∃ n k, 1 ≤ n ∧ n ≤ most ∧ k < τ 2 ^ n ∧ (agr τ e r n k).testBit i = true := by
  unfold syb
  rw [ors_bit]
  constructor
  · intro ⟨n, h1, h2⟩
    obtain ⟨k, h3, h4⟩ := (ors_bit _ i _).mp h2
    exact ⟨n + 1, k, by omega, by omega, h3, h4⟩
  · intro ⟨n, k, h1, h2, h3, h4⟩
    refine ⟨n - 1, by omega, (ors_bit _ i _).mpr ⟨k, ?_, ?_⟩⟩
    · rw [show n - 1 + 1 = n by omega]; exact h3
    · show (agr τ e r (n - 1 + 1) k).testBit i = true
      rw [show n - 1 + 1 = n by omega]; exact h4
theorem syb_lt (e r most : Nat) : syb τ e r most < 256 := ors_lt (k := 8) most (fun n _ => ors_lt (k := 8) _ (fun k _ => agr_lt ..))
theorem bits_ext {a b : Nat} (h : ∀ i, a.testBit i = true ↔ b.testBit i = true) : a = b := Nat.eq_of_testBit_eq (fun i => Bool.eq_iff_iff.mpr (h i))
theorem c_collect {e r most : Nat} (H : TgOk τ nm) (e0 : 0 < e) (he : e ≤ 5) (hn : most ≤ 12) : ∀ (m d P : Nat) (h : Hp) (f : Nat), d + m = most → m < f → (d = 0 ∨ 0 < τ 2) → WB τ nm e r (gw 9 10) none (-1) h → WL τ e r (gw 9 10) none d P h → ∃ v h', itr3 E_X2_collect f (nI d) (nI most) h = some (nI v, h') ∧ v < 256 ∧ Same [124, 125, 129] h h' ∧ WL τ e r (gw 9 10) none d P h' ∧ ∀ i, v.testBit i = true ↔ ∃ n k, d ≤ n ∧ n ≤ most ∧ P * τ 2 ^ (n - d) ≤ k ∧ k < (P + 1) * τ 2 ^ (n - d) ∧ (agr τ e r n k).testBit i = true := by
  have h8 := H.1.2.2.1
  intro m
  induction m with
  | zero =>
    intro d P h f hdm hf hS B L
    obtain ⟨f, rfl⟩ : ∃ q, f = q + 1 := ⟨f - 1, by omega⟩
    have hd : d = most := by omega
    subst hd
    refine ⟨agr τ e r d P, h, ?_, agr_lt .., Same.rf, L, fun i => ?_⟩
    · show E_X2_collect _ _ _ _ = _
      unfold E_X2_collect
      rw [c_agreed B L H e0 he (by omega) hS, bndS, if_neg (nI_nlt (Nat.le_refl _) (by omega))]
    · constructor
      · intro z
        exact ⟨d, P, by omega, by omega, by rw [Nat.sub_self, Nat.pow_zero]; omega, by rw [Nat.sub_self, Nat.pow_zero]; omega, z⟩
      · intro ⟨n, k, h1, h2, h3, h4, h5⟩
        have : n = d := by omega
        subst this
        rw [Nat.sub_self, Nat.pow_zero] at h3 h4
        rw [show k = P by omega] at h5
        exact h5
  | succ m ih =>
    intro d P h f hdm hf hS B L
    obtain ⟨f, rfl⟩ : ∃ q, f = q + 1 := ⟨f - 1, by omega⟩
    have fe2 : ∀ rec, E_X2_collect rec (nI d) (nI most) h = bnd (f_X11_agreed (nI d) h) fun v2 h1 => (if nI d < nI most then itr3 (F_X2_collect_19 rec (nI d) (nI most) (fun v14 h13 => some (v14, h13))) N0 v2 0 h1 else some (v2, h1)) := fun rec => rfl
    have fe : itr3 E_X2_collect (f + 1) (nI d) (nI most) h = E_X2_collect (itr3 E_X2_collect f) (nI d) (nI most) h := rfl
    -- what the child w gives
    let SB : Nat → Nat → Prop := fun w i => ∃ n k, d + 1 ≤ n ∧ n ≤ most ∧ (P * τ 2 + w) * τ 2 ^ (n - (d + 1)) ≤ k ∧ k < (P * τ 2 + w + 1) * τ 2 ^ (n - (d + 1)) ∧ (agr τ e r n k).testBit i = true
    obtain ⟨a, y, e1, ⟨v, hv, v8, vb⟩, p2, p3⟩ := loop3n (F := F_X2_collect_19 (itr3 E_X2_collect f) (nI d) (nI most) (fun v14 h13 => some (v14, h13))) (k := fun v14 h13 => some (v14, h13)) (τ 2) (fun w a y => (∃ v, a = nI v ∧ v < 256 ∧ ∀ i, v.testBit i = true ↔ (agr τ e r d P).testBit i = true ∨ ∃ w', w' < w ∧ SB w' i) ∧ Same [124, 125, 129] h y ∧ WL τ e r (gw 9 10) none d P y) (fun self a y ⟨_, z1, _⟩ => by
        have By : WB τ nm e r (gw 9 10) none (-1) y := B.same (z1.mono (fun q hq => by simp only [List.mem_cons, List.not_mem_nil, or_false] at hq ⊢; omega))
        unfold F_X2_collect_19
        rw [lt_s0, By.2.1.2, if_pos (by decide), By.1.1.2.2.1, if_pos (nI_le (Nat.le_refl _) (by omega))]) (fun self w a y hw ⟨⟨v, hv, v8, vb⟩, z1, z2⟩ => by
        have By : WB τ nm e r (gw 9 10) none (-1) y := B.same (z1.mono (fun q hq => by simp only [List.mem_cons, List.not_mem_nil, or_false] at hq ⊢; omega))
        have hl : (nI (d + 1) = -1) = (false = true) := by
          apply propext
          exact ⟨fun z => absurd z (nI_m1lt (by omega)), fun z => by cases z⟩
        obtain ⟨u, y2, f1, s1, B1, L0, o1, L1⟩ := c_put (last := false) By z2 H he (by omega) hw (fun b hb => by unfold gw; by_cases z : b = 0; rw [if_pos z]; omega; rw [if_neg z]; omega) (fun q hq => by cases hq) hl
        have head : F_X2_collect_19 (itr3 E_X2_collect f) (nI d) (nI most) (fun v14 h13 => some (v14, h13)) self a (nI w) y = (if nI u.toNat = 0 then self a (nI (w + 1)) y2 else bnd (itr3 E_X2_collect f (nI (d + 1)) (nI most) y2) fun v11 h10 => lt (a ||| v11) fun v12 => self v12 (nI (w + 1)) h10) := by
          unfold F_X2_collect_19
          rw [lt_s0, By.2.1.2, if_pos (by decide), By.1.1.2.2.1, if_neg (nI_ge hw (by omega)), f1, bndS, nI_1, nI_1]
        rw [head]
        cases hu : u with
        | false =>
          have no : ∀ i, ¬ SB w i := fun i ⟨n, k, w1, w2, w3, w4, w5⟩ => by
            have upk : up (τ 2) n k (d + 1) = P * τ 2 + w := by
              unfold up
              exact in_sub w3 w4
            have nok : ¬ okp τ e r (gw 9 10) none false (d + 1) (P * τ 2 + w) := fun z => by
              have := o1.mpr z
              rw [hu] at this
              cases this
            have hex : ∃ b, 1 ≤ b ∧ b ≤ e ∧ rs τ e r b (d + 1) (P * τ 2 + w) = 0 := by
              apply Classical.byContradiction
              intro hc
              apply nok
              refine ⟨fun q hq => (by cases hq), fun b hb h9 => ⟨Or.inl (fun z => hc ⟨b, ?_, hb, z⟩), fun z => by cases z⟩⟩
              rcases (show b = 0 ∨ 1 ≤ b by omega) with z | z
              · rw [z] at h9; exact absurd rfl h9
              · exact z
            obtain ⟨b, b1, b2, b3⟩ := hex
            rw [← upk] at b3
            have dead := rs_dead (show 0 < τ 2 by omega) b3 (n - (d + 1)) (by omega)
            rw [show d + 1 + (n - (d + 1)) = n by omega, up_self] at dead
            rw [agr_dead b1 b2 dead, Nat.zero_testBit] at w5
            cases w5
          refine ⟨a, y2, by rw [if_pos (by decide)], ⟨v, hv, v8, fun i => ?_⟩, z1.tr s1, L0⟩
          rw [vb i]
          constructor
          · rintro (z | ⟨w', q1, q2⟩)
            · exact Or.inl z
            · exact Or.inr ⟨w', by omega, q2⟩
          · rintro (z | ⟨w', q1, q2⟩)
            · exact Or.inl z
            · by_cases q3 : w' = w
              · rw [q3] at q2; exact absurd q2 (no i)
              · exact Or.inr ⟨w', by omega, q2⟩
        | true =>
          obtain ⟨v2, y3, f2, v28, s2, L2, vb2⟩ := ih (d + 1) (P * τ 2 + w) y2 f (by omega) (by omega) (Or.inr (by omega)) B1 (L1 hu)
          have Ly3 : WL τ e r (gw 9 10) none d P y3 := by
            have upS : ∀ i, i ≤ d → up (τ 2) (d + 1) (P * τ 2 + w) i = up (τ 2) d P i := fun i hi => up_lo hw hi
            refine ⟨fun i hi => ?_, fun i hi b hb h9 => ?_, fun q hq => by cases hq⟩
            · rw [L2.1 i (by omega), dgt_lo hw hi]
            · rw [L2.2.1 i (by omega) b hb h9, upS i hi]
          refine ⟨nI (v ||| v2), y3, by rw [if_neg (by decide), f2, bndS, lt_s0, hv, fa_or], ⟨v ||| v2, rfl, or_lt (n := 8) v8 v28, fun i => ?_⟩, z1.tr (s1.tr s2), Ly3⟩
          rw [Nat.testBit_or, Bool.or_eq_true, vb i, vb2 i]
          constructor
          · rintro ((z | ⟨w', q1, q2⟩) | z)
            · exact Or.inl z
            · exact Or.inr ⟨w', by omega, q2⟩
            · exact Or.inr ⟨w, by omega, z⟩
          · rintro (z | ⟨w', q1, q2⟩)
            · exact Or.inl (Or.inl z)
            · by_cases q3 : w' = w
              · rw [q3] at q2; exact Or.inr q2
              · exact Or.inl (Or.inr ⟨w', by omega, q2⟩)) (nI (agr τ e r d P)) h ⟨⟨_, rfl, agr_lt .., fun i => ⟨fun z => Or.inl z, fun z => by
          rcases z with z | ⟨w', q1, _⟩
          · exact z
          · omega⟩⟩, Same.rf, L⟩ (by omega)
    refine ⟨v, y, ?_, v8, p2, p3, fun i => ?_⟩
    · rw [fe, fe2, c_agreed B L H e0 he (by omega) hS, bndS, if_pos (nI_lt (by omega) (by omega)), li_0, e1, hv]
    · rw [vb i]
      constructor
      · rintro (z | ⟨w, q1, n, k, w1, w2, w3, w4, w5⟩)
        · exact ⟨d, P, by omega, by omega, by rw [Nat.sub_self, Nat.pow_zero]; omega, by rw [Nat.sub_self, Nat.pow_zero]; omega, z⟩
        · have sm1 := sub_mul P (τ 2) w (n - (d + 1))
          have sm2 := sub_mul P (τ 2) (w + 1) (n - (d + 1))
          have wt : (w + 1) * τ 2 ^ (n - (d + 1)) ≤ τ 2 * τ 2 ^ (n - (d + 1)) := Nat.mul_le_mul_right _ (by omega)
          have pt : (P + 1) * τ 2 ^ (n - (d + 1) + 1) = P * τ 2 ^ (n - (d + 1) + 1) + τ 2 * τ 2 ^ (n - (d + 1)) := by rw [Nat.add_mul, Nat.one_mul, pwS]
          refine ⟨n, k, by omega, w2, ?_, ?_, w5⟩
          · rw [show n - d = n - (d + 1) + 1 by omega]; omega
          · rw [show n - d = n - (d + 1) + 1 by omega]
            rw [show P * τ 2 + w + 1 = P * τ 2 + (w + 1) by omega, sm2] at w4
            omega
      · intro ⟨n, k, w1, w2, w3, w4, w5⟩
        by_cases hnd : n = d
        · subst hnd
          rw [Nat.sub_self, Nat.pow_zero] at w3 w4
          rw [show k = P by omega] at w5
          exact Or.inl w5
        · right
          have e2 : n - d = n - (d + 1) + 1 := by omega
          rw [e2] at w3 w4
          have S0 : 0 < τ 2 := by
            apply Classical.byContradiction
            intro z
            rw [show τ 2 = 0 by omega, Nat.zero_pow (by omega)] at w3 w4
            omega
          have dk := Nat.div_add_mod (k / τ 2 ^ (n - (d + 1))) (τ 2)
          have up1 : k / τ 2 ^ (n - (d + 1)) / τ 2 = P := by
            rw [Nat.div_div_eq_div_mul, ← Nat.pow_succ]
            exact in_sub w3 w4
          rw [up1, Nat.mul_comm] at dk
          have dk2 := Nat.div_add_mod k (τ 2 ^ (n - (d + 1)))
          have ml := Nat.mod_lt k (Nat.pow_pos (n := n - (d + 1)) S0)
          refine ⟨k / τ 2 ^ (n - (d + 1)) % τ 2, Nat.mod_lt _ S0, n, k, by omega, w2, ?_, ?_, w5⟩
          · rw [dk]; exact Nat.div_mul_le_self _ _
          · have cm : k / τ 2 ^ (n - (d + 1)) * τ 2 ^ (n - (d + 1)) = τ 2 ^ (n - (d + 1)) * (k / τ 2 ^ (n - (d + 1))) := Nat.mul_comm _ _
            rw [dk, Nat.add_mul, Nat.one_mul]
            omega
theorem c_collectSafe {most : Nat} (T : TgRep h 7 τ nm) (H : TgOk τ nm) (hm : most ≤ 6) (hkb : h.1 123 8 = -1) : ∃ h', f_X2_collectSafe 7 (nI most) h = some (nI (syb τ (τ 3) (τ 4) most), h') ∧ Same [122, 123, 124, 125, 126, 127, 129] h h' ∧ h'.1 123 8 = -1 := by
  obtain ⟨-, -, -, e3, e3', e4, e4'⟩ := H.1
  obtain ⟨h1, eh1⟩ : ∃ q, q = sR h 122 2 7 := ⟨_, rfl⟩
  have s1 : Same [122, 123, 124, 125, 126, 127, 129] h h1 := by rw [eh1]; exact Same.ofR (by decide)
  have i1 : h1.1 = h.1 := by rw [eh1]; rfl
  obtain ⟨h2, f2, s2, l2, w0, w1⟩ := c_wantByAll (h := h1) (nI 9) (nI 10)
  have s2' : Same [122, 123, 124, 125, 126, 127, 129] h h2 := s1.tr (s2.mono (fun q hq => by simp only [List.mem_cons, List.not_mem_nil, or_false] at hq ⊢; omega))
  have T2 : TgRep h2 7 τ nm := T.kept (fun q z1 z2 => ⟨(s2' q (by simp; omega)).1, (s2' q (by simp; omega)).2.1⟩)
  obtain ⟨h3, f3, b1, b2, b3, b4, b5, b6⟩ := c_begin (h := h2) (x := 9) (e := τ 3) (r := τ 4) (by omega) T2.1.2.2.2.1 T2.1.2.2.2.2 (by omega) (by omega) (by omega)
  have s3 : Same [122, 123, 124, 125, 126, 127, 129] h h3 := s2'.tr (b1.mono (fun q hq => by simp only [List.mem_cons, List.not_mem_nil, or_false] at hq ⊢; omega))
  have p122 : h3.2.2 122 2 = 7 := by
    rw [(b1 122 (by decide)).2.2, l2, eh1]
    rfl
  have k3 : h3.1 123 8 = -1 := by rw [b2 8 (by decide), (s2 123 (by decide)).1, i1]; exact hkb
  obtain ⟨h4, eh4⟩ : ∃ q, q = sI h3 123 7 (-1) := ⟨_, rfl⟩
  have s4 : Same [122, 123, 124, 125, 126, 127, 129] h h4 := by rw [eh4]; exact s3.tr (Same.ofI (by decide))
  have B4 : WB τ nm (τ 3) (τ 4) (gw 9 10) none (-1) h4 := by
    refine ⟨T.kept (fun q z1 z2 => ⟨(s4 q (by simp; omega)).1, (s4 q (by simp; omega)).2.1⟩), by rw [eh4]; exact ⟨b4, p122⟩, ⟨by rw [eh4, sI_nk1 (by decide)]; exact b3, by rw [eh4, sI_s], by rw [eh4, sI_nk1 (by decide)]; exact k3⟩, fun i hi => by rw [eh4, sI_ne1 (by decide)]; exact b5 i hi, fun b hb => ?_⟩
    rw [eh4, sI_ne1 (by decide), (b1 127 (by decide)).1]
    unfold gw
    by_cases z : b = 0
    · rw [if_pos z, z]; exact w0
    · rw [if_neg z]; exact w1 b (by omega) (by omega)
  have L4 : WL τ (τ 3) (τ 4) (gw 9 10) none 0 0 h4 := by
    rw [eh4]
    exact WL_0 0 (fun b hb => ⟨(b6 b hb).1, by rw [sI_ne1 (by decide)]; exact (b6 b hb).2⟩)
  obtain ⟨v, h5, f5, v8, s5, L5, vb⟩ := c_collect (most := most) H (by omega) (by omega) (by omega) most 0 0 h4 400 (by omega) (by omega) (Or.inl rfl) B4 L4
  have ev : v = syb τ (τ 3) (τ 4) most := by
    apply bits_ext
    intro i
    rw [vb i, syb_bit]
    constructor
    · intro ⟨n, k, w1, w2, w3, w4, w5⟩
      by_cases n0 : n = 0
      · rw [n0, agr_0, Nat.zero_testBit] at w5
        cases w5
      · rw [Nat.zero_add, Nat.one_mul, Nat.sub_zero] at w4
        exact ⟨n, k, by omega, w2, w4, w5⟩
    · intro ⟨n, k, w1, w2, w3, w4⟩
      exact ⟨n, k, by omega, w2, by rw [Nat.zero_mul]; omega, by rw [Nat.zero_add, Nat.one_mul, Nat.sub_zero]; exact w3, w4⟩
  refine ⟨h5, ?_, s4.tr (s5.mono (fun q hq => by simp only [List.mem_cons, List.not_mem_nil, or_false] at hq ⊢; omega)), ?_⟩
  · unfold f_X2_collectSafe f_X2_collect
    rw [lt_s0, ← eh1, show (9 : Int32) = nI 9 from rfl, show (10 : Int32) = nI 10 from rfl, f2, bnvS]
    show bnv (f_X11_begin 7 9 h2) _ = _
    rw [f3, bnvS, lt_s0, ← eh4, li_0, f5, bndS, ev]
  · rw [(s5 123 (by decide)).1, eh4, sI_nk1 (by decide)]; exact k3
/-! as the reference does -/
theorem agr_on (e r n k : Nat) : agr τ e r n k = if (allP (fun b => decide (mb τ e r n k b = mb τ e r n k 1)) 2 (e - 1) && decide (onN (mb τ e r n k 1) < 8)) = true then mb τ e r n k 1 else 0 := by
  unfold agr
  rw [on_a _ (mb_lt ..)]
theorem m_sayRow {e r n k v : Nat} {x1 x3 : Int32} {k89 : Int32 → Hp → Option (Int32 × Hp)} {self : Int32 → Hp → Option (Int32 × Hp)} (R : RB τ e r h) (F : RF τ e r n k h) (H : TgOk τ nm) (e0 : 0 < e) (he : e ≤ 5) (hn : n ≤ 13) (hS : 0 < τ 2) (x2 : Int32) (hx : x2 = nI v) : (bnd (f_X13_meansNow 1 h) fun v7 h6 => bnd (f_X13_only v7 h6) fun v9 h8 => itr3 (F_X13_sayableIn_34 x1 x2 x3 (fun v16 h15 => B_X13_sayableIn_70 x1 x3 k89 self x2 v16 h15)) N0 v9 2 h8) = self (nI (v ||| agr τ e r n k)) h := by
  have ml := fun b => mb_lt (τ := τ) e r n k b
  have mn : ∀ b, b ≤ e → f_X13_meansNow (nI b) h = some (nI (mb τ e r n k b), h) := fun b hb => m_meansNow R F H he hn hb (Or.inr hS)
  rw [li_1, mn 1 (by omega), bndS, m_only (ml 1), bndS, agr_on, li_2]
  have b70 : ∀ (c : Bool), B_X13_sayableIn_70 x1 x3 k89 self x2 (if c = true then nI (onN (mb τ e r n k 1)) else -1) h = self (nI (v ||| (if c = true then 2 ^ onN (mb τ e r n k 1) else 0))) h ∨ ¬ onN (mb τ e r n k 1) < 8 := fun c => by
    by_cases ho : onN (mb τ e r n k 1) < 8
    · left
      unfold B_X13_sayableIn_70
      cases c
      · rw [if_neg (show ¬ (0 : Int32) ≤ (if false = true then _ else -1) by rw [if_neg (by decide)]; decide), lt_s0, hx, li_0, fa_or]
        rfl
      · rw [if_pos rfl, if_pos (nI_pos' (by omega)), lt_s0, hx, li_1, shl1 (by omega), fa_or, if_pos rfl]
    · exact Or.inr ho
  by_cases ho : onN (mb τ e r n k 1) < 8
  · obtain ⟨-, -, o2⟩ := on_b _ (ml 1) ho
    have b70' := fun c => (b70 c).resolve_right (fun z => z ho)
    have ev : onI (mb τ e r n k 1) = nI (onN (mb τ e r n k 1)) := if_pos ho
    rw [ev]
    by_cases h2 : allP (fun b => decide (mb τ e r n k b = mb τ e r n k 1)) 2 (e - 1) = true
    · rw [h2, decide_eq_true ho]
      show _ = self (nI (v ||| mb τ e r n k 1)) h
      have := b70' true
      rw [if_pos rfl, if_pos rfl, ← o2] at this
      rw [← this]
      refine sq3 (e - 1) (fun _ => nI (onN (mb τ e r n k 1))) (fun i => nI (2 + i)) (fun _ => h) (fun self => ?_) (fun self i hi => ?_) (by omega) rfl rfl rfl
      · unfold F_X13_sayableIn_34
        rw [R.2.2.1, if_pos (nI_lt (by omega) (by omega))]
      · have ei := of_decide_eq_true (allP_t.mp h2 i hi)
        unfold F_X13_sayableIn_34
        rw [R.2.2.1, if_neg (nI_nlt (by omega) (by omega)), if_neg (nI_pos (by omega)), mn _ (by omega), bndS, li_1, shl1 (by omega), ← o2, ei, if_pos rfl, nI_add]
        rfl
    · rw [Bool.eq_false_iff.mpr h2, Bool.false_and, if_neg (by decide)]
      have := b70' false
      rw [if_neg (by decide), if_neg (by decide)] at this
      rw [← this]
      have hex : ∃ j, j < e - 1 ∧ ¬ mb τ e r n k (2 + j) = mb τ e r n k 1 := by
        apply Classical.byContradiction
        intro hc
        exact h2 (allP_t.mpr (fun i hi => decide_eq_true (Classical.byContradiction fun z => hc ⟨i, hi, z⟩)))
      obtain ⟨j, ⟨j1, j2⟩, j3⟩ := pk_least (fun j => j < e - 1 ∧ ¬ mb τ e r n k (2 + j) = mb τ e r n k 1) hex
      refine sq3 (j + 1) (fun i => if i ≤ j then nI (onN (mb τ e r n k 1)) else -1) (fun i => nI (2 + i)) (fun _ => h) (fun self => ?_) (fun self i hi => ?_) (by omega) (if_pos (by omega)) rfl rfl
      · rw [show (if j + 1 ≤ j then nI (onN (mb τ e r n k 1)) else (-1 : Int32)) = -1 from if_neg (by omega)]
        unfold F_X13_sayableIn_34
        by_cases z : nI (2 + (j + 1)) ≤ nI e
        · rw [R.2.2.1, if_neg (by rw [Int32.not_lt]; exact z), if_pos (by decide)]
        · rw [R.2.2.1, if_pos (by rw [← Int32.not_le]; exact z)]
      · rw [show (if i ≤ j then nI (onN (mb τ e r n k 1)) else (-1 : Int32)) = nI (onN (mb τ e r n k 1)) from if_pos (by omega)]
        unfold F_X13_sayableIn_34
        rw [R.2.2.1, if_neg (nI_nlt (by omega) (by omega)), if_neg (nI_pos (by omega)), mn _ (by omega), bndS, li_1, shl1 (by omega), ← o2]
        by_cases hij : i = j
        · subst hij
          rw [if_neg (fun z => j2 ((nI_eq (by have := ml (2 + i); omega) (by have := ml 1; omega)).mp z)), if_neg (by omega), nI_add]
          rfl
        · have ei : mb τ e r n k (2 + i) = mb τ e r n k 1 := Classical.byContradiction fun z => j3 i (by omega) ⟨by omega, z⟩
          rw [ei, if_pos rfl, if_pos (by omega), nI_add]
          rfl
  · rw [decide_eq_false ho, Bool.and_false, if_neg (by decide), show onI (mb τ e r n k 1) = -1 from if_neg ho]
    have : B_X13_sayableIn_70 x1 x3 k89 self x2 (-1) h = self (nI (v ||| 0)) h := by
      unfold B_X13_sayableIn_70
      rw [if_neg (by decide), lt_s0, hx, li_0, fa_or]
    rw [← this]
    refine sq3 0 (fun _ => -1) (fun i => nI (2 + i)) (fun _ => h) (fun self => ?_) (fun self i hi => by omega) (by omega) rfl rfl rfl
    unfold F_X13_sayableIn_34
    by_cases z : nI (2 + 0) ≤ nI e
    · rw [R.2.2.1, if_neg (by rw [Int32.not_lt]; exact z), if_pos (by decide)]
    · rw [R.2.2.1, if_pos (by rw [← Int32.not_le]; exact z)]
theorem m_sayableIn {e r most : Nat} (H : TgOk τ nm) (e0 : 0 < e) (he : e ≤ 5) (hr : r < 1000) (hm : most ≤ 6) (R : RB τ e r h) : ∃ h', f_X13_sayableIn (nI most) h = some (nI (syb τ e r most), h') ∧ FS h h' := by
  have h8 := H.1.2.2.1
  obtain ⟨a, y, e1, p1, p2⟩ := loop3f (F := F_X13_sayableIn_4 (nI most) (fun v23 h22 => some (v23, h22))) (k := fun v23 h22 => some (v23, h22)) 1 (most + 1) (by omega) (fun n a y => a = nI (syb τ e r (n - 1)) ∧ FS h y) (fun self a y _ => by
      unfold F_X13_sayableIn_4
      rw [if_pos (nI_lt (by omega) (by omega))]) (fun self n a y hn1 hn2 ⟨z1, Fy⟩ => by
      have Ry := R.fs Fy
      obtain ⟨y1, f1, F1, A1, b43, b44, b73⟩ := m_begin (n := n) Ry he
      have R1 := Ry.fs F1
      have hp := pow_le_6 h8 (show n ≤ 6 by omega)
      have L : ∃ y2, itr2 (F_X13_sayableIn_14 (nI most) (nI n) (fun v21 h20 => self v21 (nI n + 1) h20)) N0 a y1 = self (nI (syb τ e r (n - 1) ||| ors (fun k => agr τ e r n k) (τ 2 ^ n))) (nI n + 1) y2 ∧ FS y1 y2 := by
        refine itr2_loop (F := F_X13_sayableIn_14 (nI most) (nI n) (fun v21 h20 => self v21 (nI n + 1) h20)) (fun q => ∃ y2, q = self (nI (syb τ e r (n - 1) ||| ors (fun k => agr τ e r n k) (τ 2 ^ n))) (nI n + 1) y2 ∧ FS y1 y2) (fun m x2 z => ∃ j, m = τ 2 ^ n - j ∧ j ≤ τ 2 ^ n ∧ x2 = nI (syb τ e r (n - 1) ||| ors (fun k => agr τ e r n k) j) ∧ RN τ e r n j z ∧ FS y1 z) ?_ (τ 2 ^ n) a y1 N0 (by have := N0_big; omega) ⟨0, by omega, by omega, by rw [z1]; show _ = nI (_ ||| 0); rw [Nat.or_zero], Or.inl ⟨rfl, A1, b43, b44, b73⟩, FS.rf⟩
        intro m sf x2 z ⟨j, hm2, hj, hx, Nz, Fz⟩
        have Rz := R1.fs Fz
        rcases m_nextRow H Rz e0 he hr (by omega) hn1 Nz hj with ⟨j1, z2, g1, G1, B1⟩ | ⟨j1, z2, g1, G1⟩
        · have S0 : 0 < τ 2 := by
            apply Classical.byContradiction
            intro q
            rw [show τ 2 = 0 by omega, Nat.zero_pow (by omega)] at j1
            omega
          right
          refine ⟨τ 2 ^ n - (j + 1), nI (syb τ e r (n - 1) ||| ors (fun k => agr τ e r n k) (j + 1)), z2, by omega, ⟨j + 1, rfl, by omega, rfl, Or.inr ⟨j, rfl, j1, B1⟩, Fz.tr G1⟩, ?_⟩
          unfold F_X13_sayableIn_14
          rw [g1, bndS, if_neg (by decide), m_sayRow (Rz.fs G1) B1 H e0 he (by omega) S0 x2 hx, Nat.or_assoc]
          rfl
        · left
          refine ⟨z2, ?_, Fz.tr G1⟩
          unfold F_X13_sayableIn_14
          rw [g1, bndS, if_pos (by decide), hx, j1]
      obtain ⟨y2, f2, F2⟩ := L
      refine ⟨_, y2, ?_, rfl, (Fy.tr F1).tr F2⟩
      unfold F_X13_sayableIn_4
      have es : syb τ e r (n + 1 - 1) = syb τ e r (n - 1) ||| ors (fun k => agr τ e r n k) (τ 2 ^ n) := by
        rw [show n + 1 - 1 = (n - 1) + 1 by omega]
        show syb τ e r (n - 1) ||| ors (fun k => agr τ e r (n - 1 + 1) k) (τ 2 ^ (n - 1 + 1)) = _
        rw [show n - 1 + 1 = n by omega]
      rw [if_neg (nI_nlt (by omega) (by omega)), f1, bnvS, f2, nI_1, es]) (nI 0) h ⟨rfl, FS.rf⟩ (by omega)
  refine ⟨y, ?_, p2⟩
  unfold f_X13_sayableIn
  rw [li_0, li_1]
  rw [e1, p1, show most + 1 - 1 = most by omega]
end TN
