section TS
variable {tp : List Nat} {σ τ : Nat → Nat} {nm nm2 : Nat → List Nat} {K : Im} {fd : List Nat} {fl : Nat} {tn : Option Tn} {h h' : Hp}
/-- the places of the TEXT that a row can have come to -/
def pbf (σ : Nat → Nat) (k d T w t : Nat) : Nat := if T.testBit t = true then ((if t < σ 437 ∧ σ (438 + t) = w then 2 ^ (t + 1) else 0) ||| (if σ (64 + w) = 1 ∧ d + 1 ≤ t + k then 2 ^ t else 0)) else 0
def pbN (σ : Nat → Nat) (k d T w : Nat) : Nat := ors (pbf σ k d T w) (σ 437 + 1)
def TT (σ : Nat → Nat) (k : Nat) : Nat → Nat → Nat
  | 0, _ => 1
  | d + 1, P => pbN σ k d (TT σ k d (P / σ 2)) (P % σ 2)
theorem TT_s {k d P w : Nat} (hw : w < σ 2) : TT σ k (d + 1) (P * σ 2 + w) = pbN σ k d (TT σ k d P) w := by
  show pbN σ k d (TT σ k d ((P * σ 2 + w) / σ 2)) ((P * σ 2 + w) % σ 2) = _
  rw [ps_div hw, ps_mod hw]
theorem pbN_bit (σ : Nat → Nat) (k d T w u : Nat) : (pbN σ k d T w).testBit u = true ↔ ∃ t, t ≤ σ 437 ∧ T.testBit t = true ∧ ((t < σ 437 ∧ σ (438 + t) = w ∧ u = t + 1) ∨ (σ (64 + w) = 1 ∧ d + 1 ≤ t + k ∧ u = t)) := by
  unfold pbN
  rw [ors_bit]
  constructor
  · intro ⟨t, h1, h2⟩
    unfold pbf at h2
    by_cases hb : T.testBit t = true
    · rw [if_pos hb, Nat.testBit_or, Bool.or_eq_true] at h2
      refine ⟨t, by omega, hb, ?_⟩
      rcases h2 with z | z
      · by_cases c : t < σ 437 ∧ σ (438 + t) = w
        · rw [if_pos c, Nat.testBit_two_pow, decide_eq_true_eq] at z
          exact Or.inl ⟨c.1, c.2, z.symm⟩
        · rw [if_neg c, Nat.zero_testBit] at z
          cases z
      · by_cases c : σ (64 + w) = 1 ∧ d + 1 ≤ t + k
        · rw [if_pos c, Nat.testBit_two_pow, decide_eq_true_eq] at z
          exact Or.inr ⟨c.1, c.2, z.symm⟩
        · rw [if_neg c, Nat.zero_testBit] at z
          cases z
    · rw [if_neg hb, Nat.zero_testBit] at h2
      cases h2
  · intro ⟨t, h1, hb, h2⟩
    refine ⟨t, by omega, ?_⟩
    unfold pbf
    rw [if_pos hb, Nat.testBit_or, Bool.or_eq_true]
    rcases h2 with ⟨c1, c2, c3⟩ | ⟨c1, c2, c3⟩
    · left
      rw [if_pos ⟨c1, c2⟩, Nat.testBit_two_pow, c3]
      simp
    · right
      rw [if_pos ⟨c1, c2⟩, Nat.testBit_two_pow, c3]
      simp
theorem pbf_lt {k d T w t : Nat} (ht : t ≤ 10) : pbf σ k d T w t < 2 ^ 12 := by
  unfold pbf
  by_cases hb : T.testBit t = true
  · rw [if_pos hb]
    refine or_lt ?_ ?_
    · by_cases c : t < σ 437 ∧ σ (438 + t) = w
      · rw [if_pos c]; exact Nat.pow_lt_pow_right (by decide) (by omega)
      · rw [if_neg c]; decide
    · by_cases c : σ (64 + w) = 1 ∧ d + 1 ≤ t + k
      · rw [if_pos c]; exact Nat.pow_lt_pow_right (by decide) (by omega)
      · rw [if_neg c]; decide
  · rw [if_neg hb]; decide
theorem TT_lt (s10 : σ 437 ≤ 10) (k : Nat) : ∀ d P, TT σ k d P < 2 ^ 12
  | 0, _ => by show (1 : Nat) < 2 ^ 12; decide
  | d + 1, P => ors_lt _ (fun t ht => pbf_lt (by omega))
/-- the class's one place is the greatest of the reference's -/
theorem TT_gr (S0 : 0 < σ 2) (k : Nat) : ∀ d P, (gr σ k d P = none → TT σ k d P = 0) ∧ ∀ t, gr σ k d P = some t → (TT σ k d P).testBit t = true ∧ t ≤ σ 437 ∧ ∀ u, (TT σ k d P).testBit u = true → u ≤ t ∧ d ≤ u + k ∧ ∀ j, u ≤ j → j < t → σ (64 + σ (438 + j)) = 1
  | 0, P => by
    refine ⟨fun z => (by cases z), fun t ht => ?_⟩
    have e : t = 0 := by
      have : some 0 = some t := ht
      cases this
      rfl
    rw [e]
    have b1 : ∀ u, (1 : Nat).testBit u = true → u = 0 := fun u hu => by
      rw [show (1 : Nat) = 2 ^ 0 from rfl, Nat.testBit_two_pow, decide_eq_true_eq] at hu
      exact hu.symm
    exact ⟨by show (1 : Nat).testBit 0 = true; decide, by omega, fun u hu => ⟨by have := b1 u hu; omega, by omega, fun j h1 h2 => by omega⟩⟩
  | d + 1, P => by
    obtain ⟨a, b⟩ := TT_gr S0 k d (P / σ 2)
    have hw := Nat.mod_lt P S0
    have eP : P = P / σ 2 * σ 2 + P % σ 2 := by rw [Nat.mul_comm]; exact (Nat.div_add_mod P (σ 2)).symm
    have eG : gr σ k (d + 1) P = match gr σ k d (P / σ 2) with
      | none => none
      | some t => gst σ k d t (P % σ 2) := rfl
    have eT : TT σ k (d + 1) P = pbN σ k d (TT σ k d (P / σ 2)) (P % σ 2) := rfl
    generalize P % σ 2 = w at *
    rw [eG, eT]
    cases hg : gr σ k d (P / σ 2) with
    | none =>
      refine ⟨fun _ => ?_, fun t ht => by cases ht⟩
      rw [a hg]
      apply bits_ext
      intro i
      rw [pbN_bit, Nat.zero_testBit]
      constructor
      · intro ⟨t, _, hb, _⟩
        rw [Nat.zero_testBit] at hb
        cases hb
      · intro z
        cases z
    | some t0 =>
      obtain ⟨b1, b2, b3⟩ := b t0 hg
      show (gst σ k d t0 w = none → _) ∧ ∀ t, gst σ k d t0 w = some t → _
      unfold gst
      by_cases c1 : t0 < σ 437 ∧ σ (438 + t0) = w
      · rw [if_pos c1]
        refine ⟨fun z => (by cases z), fun t ht => ?_⟩
        cases ht
        refine ⟨(pbN_bit ..).mpr ⟨t0, b2, b1, Or.inl ⟨c1.1, c1.2, rfl⟩⟩, by omega, fun u hu => ?_⟩
        obtain ⟨t, h1, h2, h3⟩ := (pbN_bit ..).mp hu
        obtain ⟨d1, d2, d3⟩ := b3 t h2
        rcases h3 with ⟨e1, e2, e3⟩ | ⟨e1, e2, e3⟩
        · refine ⟨by omega, by omega, fun j j1 j2 => ?_⟩
          by_cases hj : j < t0
          · exact d3 j (by omega) hj
          · have ej : j = t0 := by omega
            have : t < t0 := by omega
            have := d3 t (Nat.le_refl _) this
            rw [e2] at this
            rw [ej, c1.2]
            exact this
        · refine ⟨by omega, by omega, fun j j1 j2 => ?_⟩
          by_cases hj : j < t0
          · exact d3 j (by omega) hj
          · have ej : j = t0 := by omega
            rw [ej, c1.2]
            exact e1
      · rw [if_neg c1]
        by_cases c2 : σ (64 + w) = 1 ∧ d + 1 ≤ t0 + k
        · rw [if_pos c2]
          refine ⟨fun z => (by cases z), fun t ht => ?_⟩
          cases ht
          refine ⟨(pbN_bit ..).mpr ⟨t0, b2, b1, Or.inr ⟨c2.1, c2.2, rfl⟩⟩, b2, fun u hu => ?_⟩
          obtain ⟨t, h1, h2, h3⟩ := (pbN_bit ..).mp hu
          obtain ⟨d1, d2, d3⟩ := b3 t h2
          rcases h3 with ⟨e1, e2, e3⟩ | ⟨e1, e2, e3⟩
          · have : t ≠ t0 := fun z => by rw [z] at e1 e2; exact c1 ⟨e1, e2⟩
            exact ⟨by omega, by omega, fun j j1 j2 => d3 j (by omega) j2⟩
          · exact ⟨by omega, by omega, fun j j1 j2 => d3 j (by omega) j2⟩
        · rw [if_neg c2]
          refine ⟨fun _ => ?_, fun t ht => by cases ht⟩
          apply bits_ext
          intro i
          rw [pbN_bit, Nat.zero_testBit]
          constructor
          · intro ⟨t, h1, h2, h3⟩
            obtain ⟨d1, d2, d3⟩ := b3 t h2
            exfalso
            rcases h3 with ⟨e1, e2, e3⟩ | ⟨e1, e2, e3⟩
            · have ne : t ≠ t0 := fun z => by rw [z] at e1 e2; exact c1 ⟨e1, e2⟩
              have := d3 t (Nat.le_refl _) (by omega)
              rw [e2] at this
              exact c2 ⟨this, by omega⟩
            · exact c2 ⟨e1, by omega⟩
          · intro z
            cases z
theorem TT_end (S0 : 0 < σ 2) {k n j : Nat} (hn : n = σ 437 + k) : (TT σ k n j).testBit (σ 437) = true ↔ gr σ k n j ≠ none := by
  obtain ⟨a, b⟩ := TT_gr S0 k n j
  constructor
  · intro z hz
    rw [a hz, Nat.zero_testBit] at z
    cases z
  · intro z
    cases hg : gr σ k n j with
    | none => exact absurd hg z
    | some t =>
      obtain ⟨b1, b2, b3⟩ := b t hg
      have := (b3 t b1).2.1
      rw [show σ 437 = t by omega]
      exact b1
theorem ltSub {k a t : Nat} (hk : k < 1000) (ha : a < 1000) (ht : t < 1000) : (nI k < nI a - nI t) = (k + t < a) := by
  apply propext
  by_cases h1 : t ≤ a
  · rw [subN h1, fa_lt, nI_toInt (by omega), nI_toInt (by omega)]
    omega
  · rw [subM (by omega)]
    constructor
    · intro z
      rw [fa_lt, mI_toInt (by omega), nI_toInt (by omega)] at z
      omega
    · intro z
      omega
theorem m_placesBehind {k d T w : Nat} (ms : ∀ k, k < 713 → h.1 157 k = nI (σ k)) (H : TgOk σ nm) (s10 : σ 437 ≤ 10) (hw : w < σ 2) (hT : T < 2 ^ 12) (hk : k ≤ 3) (hd : d ≤ 13) (rl : ∀ i, i < σ 437 → σ (438 + i) < σ 2) : f_X13_placesBehind (nI T) (nI w) (nI d) (nI k) h = some (nI (pbN σ k d T w), h) := by
  have h8 := H.1.2.2.1
  unfold f_X13_placesBehind
  refine sq3 (σ 437 + 1) (fun i => nI (ors (pbf σ k d T w) i)) (fun i => nI i) (fun _ => h) (fun self => ?_) (fun self t ht => ?_) (by omega) rfl rfl rfl
  · unfold F_X13_placesBehind_6
    rw [li_437, clp (by omega), ms 437 (by omega), if_pos (nI_lt (by omega) (by omega))]
    rfl
  · have hs : ors (pbf σ k d T w) (t + 1) = ors (pbf σ k d T w) t ||| pbf σ k d T w t := rfl
    have i1 := H.2.2.2.2.1 (64 + w) (by omega) (by omega)
    have b70 : ∀ v, B_X13_placesBehind_70 (nI T) (nI w) (nI d) (nI k) (fun v14 h13 => some (v14, h13)) self (nI v) (nI t) h = self (nI (v ||| (if σ (64 + w) = 1 ∧ d + 1 ≤ t + k then 2 ^ t else 0))) (nI (t + 1)) h := fun v => by
      unfold B_X13_placesBehind_70
      rw [li_64, nI_add, if_pos (inb_nI (by omega) (by decide)), nI_clamp (by omega), ms _ (by omega), nI_1, nI_1]
      by_cases c1 : σ (64 + w) = 1
      · rw [c1, if_pos (show nI 1 = 1 from rfl)]
        by_cases c2 : d + 1 ≤ t + k
        · rw [if_neg (by rw [ltSub (by omega) (by omega) (by omega)]; omega), lt_s0, li_1, shl1 (by omega), fa_or, if_pos ⟨rfl, c2⟩]
        · rw [if_pos (by rw [ltSub (by omega) (by omega) (by omega)]; omega), if_neg (fun z => c2 z.2), Nat.or_zero]
      · rw [if_neg (show ¬ nI (σ (64 + w)) = 1 from fun z => c1 ((nI_eq (b := 1) (by omega) (by omega)).mp z)), if_neg (fun z => c1 z.1), Nat.or_zero]
    unfold F_X13_placesBehind_6
    rw [li_437, clp (by omega), ms 437 (by omega), if_neg (nI_nlt (by omega) (by omega)), m_has (by omega) (by omega), bndS, hs, nI_1]
    have pe : pbf σ k d T w t = if T.testBit t = true then ((if t < σ 437 ∧ σ (438 + t) = w then 2 ^ (t + 1) else 0) ||| (if σ (64 + w) = 1 ∧ d + 1 ≤ t + k then 2 ^ t else 0)) else 0 := rfl
    rw [pe]
    cases hb : T.testBit t
    · rw [if_pos (by decide), if_neg (by decide), Nat.or_zero]
    · rw [if_neg (by decide), if_pos rfl]
      by_cases c0 : t < σ 437
      · have rt := rl t c0
        rw [ms 437 (by omega), if_neg (nI_ge c0 (by omega)), li_438, nI_add, if_pos (inb_nI (by omega) (by decide)), nI_clamp (by omega), ms _ (by omega)]
        by_cases c1 : σ (438 + t) = w
        · rw [if_pos (by rw [c1]), lt_s0, li_1, shl1 (by omega), fa_or]
          refine (b70 _).trans ?_
          rw [if_pos (show t < σ 437 ∧ σ (438 + t) = w from ⟨c0, c1⟩), Nat.or_assoc]
        · rw [if_neg (fun z => c1 ((nI_eq (by omega) (by omega)).mp z))]
          refine (b70 _).trans ?_
          rw [if_neg (show ¬ (t < σ 437 ∧ σ (438 + t) = w) from fun z => c1 z.2), Nat.zero_or]
      · rw [ms 437 (by omega), if_pos (nI_le (by omega) (by omega))]
        refine (b70 _).trans ?_
        rw [if_neg (show ¬ (t < σ 437 ∧ σ (438 + t) = w) from fun z => c0 z.1), Nat.zero_or]
/-- whether the reference takes a row -/
def acM (σ : Nat → Nat) (k n j : Nat) : Bool := agm σ (σ 3) (σ 4) n j && (TT σ k n j).testBit (σ 437)
theorem acM_QM (S0 : 0 < σ 2) {k n j : Nat} (hn : n = σ 437 + k) : acM σ k n j = true ↔ QM σ k n j := by
  unfold acM QM
  rw [Bool.and_eq_true, TT_end S0 hn]
  exact ⟨fun z => ⟨z.2, z.1⟩, fun z => ⟨z.2, z.1⟩⟩
theorem m_acc {k n j : Nat} {x1 : Int32} {k1 k0 : Hp → Option (Int32 × Hp)} {self : Hp → Option (Int32 × Hp)} (ms : ∀ k, k < 713 → h.1 157 k = nI (σ k)) (R : RB σ (σ 3) (σ 4) h) (F : RF σ (σ 3) (σ 4) n j h) (H : TgOk σ nm) (hn : n ≤ 13) (n1 : 1 ≤ n) (hS : 0 < σ 2) (s10 : σ 437 ≤ 10) (hp : h.1 177 n = nI (TT σ k n j)) : F_X13_mends_21 x1 k1 k0 self h = if acM σ k n j = true then k1 h else self (sI h 155 43 (nI n - 1)) := by
  obtain ⟨-, -, -, e3, e3', e4, e4'⟩ := H.1
  have ml := fun b => mb_lt (τ := σ) (σ 3) (σ 4) n j b
  have mn : ∀ b, b ≤ σ 3 → f_X13_meansNow (nI b) h = some (nI (mb σ (σ 3) (σ 4) n j b), h) := fun b hb => m_meansNow R F H (by omega) hn hb (Or.inr hS)
  have b121 : ∀ c : Bool, B_X13_mends_121 x1 k1 k0 self (nI c.toNat) h = if c = true then k1 h else self (sI h 155 43 (nI n - 1)) := fun c => by
    unfold B_X13_mends_121
    rw [F.2.1]
    cases c
    · rw [if_pos (by decide)]
      rfl
    · rw [if_neg (by decide)]
      rfl
  have l0 : ∀ v25, itr3 (F_X13_mends_84 x1 v25 (fun v33 h32 => B_X13_mends_121 x1 k1 k0 self v33 h32)) N0 0 1 h = B_X13_mends_121 x1 k1 k0 self (nI false.toNat) h := fun v25 => by
    refine sq3 0 (fun _ => nI 0) (fun i => nI (1 + i)) (fun _ => h) (fun self2 => ?_) (fun self2 i hi => by omega) (by omega) rfl rfl rfl
    unfold F_X13_mends_84
    rw [R.2.2.1, if_neg (nI_nlt (by omega) (by omega)), if_pos (by decide)]
    rfl
  unfold F_X13_mends_21
  rw [F.2.1, F.2.2, if_neg (nI_pos (by omega)), if_pos rfl, li_0, mn 0 (by omega), bndS, m_only (ml 0), bndS]
  rw [← li_0]
  by_cases ho : onN (mb σ (σ 3) (σ 4) n j 0) < 8
  · obtain ⟨-, -, o2⟩ := on_b _ (ml 0) ho
    have ev : onI (mb σ (σ 3) (σ 4) n j 0) = nI (onN (mb σ (σ 3) (σ 4) n j 0)) := if_pos ho
    have p1 : pop (mb σ (σ 3) (σ 4) n j 0) = 1 := by
      have := on_a _ (ml 0)
      rw [decide_eq_true ho, decide_eq_true_eq] at this
      exact this
    have tl := TT_lt s10 k n j
    rw [ev, if_neg (nI_pos (by omega)), F.2.1, if_pos (inb_nI (by omega) (by decide)), nI_clamp (by omega), hp, li_437, clp (by omega), ms 437 (by omega), m_has (by omega) (by omega), bndS]
    cases ht : (TT σ k n j).testBit (σ 437)
    · have ea : acM σ k n j = false := by unfold acM; rw [ht, Bool.and_false]
      rw [if_pos (by decide), l0, b121, ea]
    · rw [if_neg (by decide)]
      by_cases h2 : allP (fun b => decide (mb σ (σ 3) (σ 4) n j b = mb σ (σ 3) (σ 4) n j 0)) 1 (σ 3) = true
      · have ea : acM σ k n j = true := by
          unfold acM agm
          rw [ht, h2, decide_eq_true p1]
          rfl
        rw [ea]
        have bt := b121 true
        rw [← bt]
        refine sq3 (σ 3) (fun _ => nI 1) (fun i => nI (1 + i)) (fun _ => h) (fun self2 => ?_) (fun self2 i hi => ?_) (by omega) rfl rfl rfl
        · unfold F_X13_mends_84
          rw [R.2.2.1, if_pos (nI_lt (by omega) (by omega))]
          rfl
        · have ei := of_decide_eq_true (allP_t.mp h2 i hi)
          unfold F_X13_mends_84
          rw [R.2.2.1, if_neg (nI_nlt (by omega) (by omega)), if_neg (by decide), mn _ (by omega), bndS, li_1, shl1 (by omega), ← o2, ei, if_pos rfl, nI_add]
          rfl
      · have ea : acM σ k n j = false := by
          unfold acM agm
          rw [Bool.eq_false_iff.mpr h2]
          rfl
        rw [ea]
        have bt := b121 false
        rw [← bt]
        have hex : ∃ i, i < σ 3 ∧ ¬ mb σ (σ 3) (σ 4) n j (1 + i) = mb σ (σ 3) (σ 4) n j 0 := by
          apply Classical.byContradiction
          intro hc
          exact h2 (allP_t.mpr (fun i hi => decide_eq_true (Classical.byContradiction fun z => hc ⟨i, hi, z⟩)))
        obtain ⟨i0, ⟨j1, j2⟩, j3⟩ := pk_least (fun i => i < σ 3 ∧ ¬ mb σ (σ 3) (σ 4) n j (1 + i) = mb σ (σ 3) (σ 4) n j 0) hex
        refine sq3 (i0 + 1) (fun i => if i ≤ i0 then nI 1 else nI 0) (fun i => nI (1 + i)) (fun _ => h) (fun self2 => ?_) (fun self2 i hi => ?_) (by omega) (if_pos (by omega)) rfl rfl
        · rw [show (if i0 + 1 ≤ i0 then nI 1 else nI 0) = nI 0 from if_neg (by omega)]
          unfold F_X13_mends_84
          by_cases z : nI (1 + (i0 + 1)) ≤ nI (σ 3)
          · rw [R.2.2.1, if_neg (by rw [Int32.not_lt]; exact z), if_pos (show nI 0 = 0 from rfl)]
            rfl
          · rw [R.2.2.1, if_pos (by rw [← Int32.not_le]; exact z)]
            rfl
        · rw [show (if i ≤ i0 then nI 1 else nI 0) = nI 1 from if_pos (by omega)]
          unfold F_X13_mends_84
          rw [R.2.2.1, if_neg (nI_nlt (by omega) (by omega)), if_neg (by decide), mn _ (by omega), bndS, li_1, shl1 (by omega), ← o2]
          by_cases hij : i = i0
          · subst hij
            rw [if_neg (fun z => j2 ((nI_eq (by have := ml (1 + i); omega) (by have := ml 0; omega)).mp z)), if_neg (by omega), nI_add]
            rfl
          · have ei : mb σ (σ 3) (σ 4) n j (1 + i) = mb σ (σ 3) (σ 4) n j 0 := Classical.byContradiction fun z => j3 i (by omega) ⟨by omega, z⟩
            rw [ei, if_pos rfl, if_pos (by omega), nI_add]
            rfl
  · have p1 : ¬ pop (mb σ (σ 3) (σ 4) n j 0) = 1 := by
      have := on_a _ (ml 0)
      rw [decide_eq_false ho, decide_eq_false_iff_not] at this
      exact this
    have ea : acM σ k n j = false := by unfold acM agm; rw [decide_eq_false p1, Bool.and_false, Bool.false_and]
    rw [show onI (mb σ (σ 3) (σ 4) n j 0) = -1 from if_neg ho, if_pos (by decide), l0, b121, ea]
end TS
