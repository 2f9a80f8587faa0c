section TR
variable {tp : List Nat} {σ τ : Nat → Nat} {nm nm2 : Nat → List Nat} {K : Im} {fd : List Nat} {fl : Nat} {tn : Option Tn} {h h' : Hp}
/-! MEND -/
theorem bts_add (p : Nat → Bool) (n : Nat) : bts p (n + 1) = bts p n + (if p n = true then 2 ^ n else 0) := by
  rw [bts_s]
  have := bts_lt p (n := n)
  cases hp : p n
  · simp
  · simp only [↓reduceIte]
    have e := or_add (b := 1) this
    rw [Nat.one_mul] at e
    exact e
theorem idl_bts (H : TgOk σ nm) : idl σ = bts (fun w => decide (σ (64 + w) = 1)) 8 := by
  have f : ∀ w, w < 8 → (if (decide (σ (64 + w) = 1)) = true then 2 ^ w else 0) = σ (64 + w) * 2 ^ w := fun w hw => by
    have := H.2.2.2.2.1 (64 + w) (by omega) (by omega)
    rcases (show σ (64 + w) = 0 ∨ σ (64 + w) = 1 by omega) with z | z
    · rw [z]; simp
    · rw [z]; simp
  rw [show (8 : Nat) = 0 + 1 + 1 + 1 + 1 + 1 + 1 + 1 + 1 from rfl]
  simp only [bts_add]
  rw [f 0 (by omega), f (0 + 1) (by omega), f (0 + 1 + 1) (by omega), f (0 + 1 + 1 + 1) (by omega), f (0 + 1 + 1 + 1 + 1) (by omega), f (0 + 1 + 1 + 1 + 1 + 1) (by omega), f (0 + 1 + 1 + 1 + 1 + 1 + 1) (by omega), f (0 + 1 + 1 + 1 + 1 + 1 + 1 + 1) (by omega)]
  unfold idl
  show _ = 0 + _ + _ + _ + _ + _ + _ + _ + _
  simp only [Nat.zero_add, Nat.reduceAdd, Nat.reducePow, Nat.mul_one, Nat.add_zero]
theorem idl_lt (H : TgOk σ nm) : idl σ < 256 := by
  rw [idl_bts H]
  exact bts_lt (n := 8) _
theorem c_idle {t w : Nat} (T : TgRep h t σ nm) (H : TgOk σ nm) (hw : w < 8) : jshr (h.1 t 11) (nI w) &&& 1 = nI (decide (σ (64 + w) = 1)).toNat := by
  rw [T.2.2.2.2.2.1.2, li_1, bitN (by have := idl_lt H; omega) (by omega), idl_bts H, bts_bit, decide_eq_true hw, Bool.true_and]
/-- how far the TEXT is taken -/
def gst (σ : Nat → Nat) (k d t w : Nat) : Option Nat := if t < σ 437 ∧ σ (438 + t) = w then some (t + 1) else if σ (64 + w) = 1 ∧ d + 1 ≤ t + k then some t else none
def gr (σ : Nat → Nat) (k : Nat) : Nat → Nat → Option Nat
  | 0, _ => some 0
  | d + 1, P => match gr σ k d (P / σ 2) with
    | none => none
    | some t => gst σ k d t (P % σ 2)
theorem gr_s {k d P w : Nat} (hw : w < σ 2) : gr σ k (d + 1) (P * σ 2 + w) = match gr σ k d P with
    | none => none
    | some t => gst σ k d t w := by
  show (match gr σ k d ((P * σ 2 + w) / σ 2) with
    | none => none
    | some t => gst σ k d t ((P * σ 2 + w) % σ 2)) = _
  rw [ps_div hw, ps_mod hw]
theorem gr_dead {k n j d : Nat} (h0 : 0 < σ 2) (hz : gr σ k d (up (σ 2) n j d) = none) : ∀ i, d + i ≤ n → gr σ k (d + i) (up (σ 2) n j (d + i)) = none
  | 0, _ => hz
  | i + 1, hi => by
    have ih := gr_dead h0 hz i (by omega)
    rw [show d + (i + 1) = d + i + 1 by omega, up_next (by omega), gr_s (dgt_lt h0 _ _ _), ih]
theorem gst_le {k d t w t' : Nat} (ht : t ≤ σ 437) (hg : gst σ k d t w = some t') : t' ≤ σ 437 := by
  unfold gst at hg
  by_cases h1 : t < σ 437 ∧ σ (438 + t) = w
  · rw [if_pos h1] at hg
    cases hg
    omega
  · rw [if_neg h1] at hg
    by_cases h2 : σ (64 + w) = 1 ∧ d + 1 ≤ t + k
    · rw [if_pos h2] at hg
      cases hg
      exact ht
    · rw [if_neg h2] at hg
      cases hg
/-- it means one thing by 0 and each beginning -/
def agm (τ : Nat → Nat) (e r n k : Nat) : Bool := allP (fun b => decide (mb τ e r n k b = mb τ e r n k 0)) 1 e && decide (pop (mb τ e r n k 0) = 1)
theorem agm_Qr {e r n k : Nat} (ha : agm τ e r n k = true) : Qr τ e r (gw 10 10) none n k := by
  unfold agm at ha
  rw [Bool.and_eq_true, decide_eq_true_eq, allP_t] at ha
  obtain ⟨a1, a2⟩ := ha
  refine ⟨fun q hq => (by cases hq), fun b hb => ?_⟩
  have e1 : mb τ e r n k b = mb τ e r n k 0 := by
    by_cases h0 : b = 0
    · rw [h0]
    · have := of_decide_eq_true (a1 (b - 1) (by omega))
      rw [show 1 + (b - 1) = b by omega] at this
      exact this
  have g10 : gw 10 10 b = 10 := by unfold gw; exact ite_self _
  rw [g10]
  show decide (pop (mb τ e r n k b) = 1) = true
  rw [e1]
  exact decide_eq_true a2
theorem c_agreedM {e r d P : Nat} {ln : Int32} (B : WB τ nm e r (gw 10 10) none ln h) (L : WL τ e r (gw 10 10) none d P h) (H : TgOk τ nm) (he : e ≤ 5) (hd : d ≤ 13) (hS : d = 0 ∨ 0 < τ 2) : ∃ v, f_X11_agreed (nI d) h = some (nI v, h) ∧ v < 256 ∧ (v ≠ 0 ↔ agm τ e r d P = true) := by
  have ml := fun b => mb_lt (τ := τ) e r d P b
  have g10 : ∀ b, gw 10 10 b = 10 := fun b => by unfold gw; exact ite_self _
  have st : ∀ b, b ≤ e → ∀ (x2 : Int32) self, F_X11_agreed_4 (nI d) (fun h14 => some (0, h14)) (fun v16 h15 => some (v16, h15)) self x2 (nI b) h = (if pop (mb τ e r d P b) = 1 then (if x2 = 0 then self (nI (mb τ e r d P b)) (nI (b + 1)) h else if x2 = nI (mb τ e r d P b) then self (nI (mb τ e r d P b)) (nI (b + 1)) h else some (0, h)) else some (0, h)) := fun b hb2 x2 self => by
    have c := L.2.1 d (Nat.le_refl _) b hb2 (by rw [g10]; omega)
    rw [up_self] at c
    have gb : h.1 127 b = nI 10 := by rw [B.2.2.2.2 b hb2, g10]
    have pl := pop_le _ (ml b)
    unfold F_X11_agreed_4
    rw [B.2.2.1.1, if_neg (nI_nlt hb2 (by omega)), if_pos (inb_nI (by omega) (by decide)), nI_clamp (by omega), gb, if_neg (by decide), lt_s0, B.2.1.1, if_pos (by decide), li_6, pk_mul, nI_add, if_pos (inb_nI (by omega) (by decide)), nI_clamp (by omega), c, c_meant B.1 H (rs_le' H e r b d P hS), bndS]
    show bnd (f_J6_bitCount_0f7a4 (nI (mb τ e r d P b)) h) _ = _
    rw [c_bc (ml b), bndS, nI_1]
    by_cases h1 : pop (mb τ e r d P b) = 1
    · rw [if_pos h1, h1, if_pos (by decide)]
      rfl
    · rw [if_neg h1, if_neg (show ¬ nI (pop (mb τ e r d P b)) = 1 from fun z => h1 ((nI_eq (b := 1) (by omega) (by omega)).mp z))]
  have nz : ∀ v, pop v = 1 → v ≠ 0 := fun v hv z => by rw [z, pop_0] at hv; omega
  unfold f_X11_agreed agm
  by_cases h1 : pop (mb τ e r d P 0) = 1
  · have n0 : ¬ nI (mb τ e r d P 0) = 0 := fun z => nz _ h1 ((nI_eq (b := 0) (by have := ml 0; omega) (by omega)).mp z)
    by_cases h2 : allP (fun b => decide (mb τ e r d P b = mb τ e r d P 0)) 1 e = true
    · refine ⟨mb τ e r d P 0, ?_, ml 0, ⟨fun _ => by rw [h2, decide_eq_true h1]; rfl, fun _ => nz _ h1⟩⟩
      refine sq3 (e + 1) (fun i => if i = 0 then nI 0 else nI (mb τ e r d P 0)) (fun i => nI i) (fun _ => h) (fun self => ?_) (fun self i hi => ?_) (by omega) rfl rfl rfl
      · rw [show (if e + 1 = 0 then nI 0 else nI (mb τ e r d P 0)) = nI (mb τ e r d P 0) from if_neg (by omega)]
        unfold F_X11_agreed_4
        rw [B.2.2.1.1, if_pos (nI_lt (by omega) (by omega))]
      · rw [show (if i + 1 = 0 then nI 0 else nI (mb τ e r d P 0)) = nI (mb τ e r d P 0) from if_neg (by omega)]
        by_cases i0 : i = 0
        · rw [i0, show (if 0 = 0 then nI 0 else nI (mb τ e r d P 0)) = nI 0 from if_pos rfl, st 0 (by omega), if_pos h1, if_pos (show nI 0 = 0 from rfl)]
        · have ei := of_decide_eq_true (allP_t.mp h2 (i - 1) (by omega))
          rw [show 1 + (i - 1) = i by omega] at ei
          rw [show (if i = 0 then nI 0 else nI (mb τ e r d P 0)) = nI (mb τ e r d P 0) from if_neg i0, st i (by omega), ei, if_pos h1, if_neg n0, if_pos rfl]
    · refine ⟨0, ?_, by omega, ⟨fun z => absurd rfl z, fun z => by rw [Bool.eq_false_iff.mpr h2, Bool.false_and] at z; cases z⟩⟩
      have hex : ∃ j, j < e ∧ ¬ mb τ e r d P (1 + j) = mb τ e r d P 0 := by
        apply Classical.byContradiction
        intro hc
        exact h2 (allP_t.mpr (fun i hi => decide_eq_true (Classical.byContradiction fun z => hc ⟨i, hi, z⟩)))
      obtain ⟨j, ⟨j1, j2⟩, j3⟩ := pk_least (fun j => j < e ∧ ¬ mb τ e r d P (1 + j) = mb τ e r d P 0) hex
      refine sq3 (1 + j) (fun i => if i = 0 then nI 0 else nI (mb τ e r d P 0)) (fun i => nI i) (fun _ => h) (fun self => ?_) (fun self i hi => ?_) (by omega) rfl rfl rfl
      · rw [show (if 1 + j = 0 then nI 0 else nI (mb τ e r d P 0)) = nI (mb τ e r d P 0) from if_neg (by omega), st (1 + j) (by omega)]
        by_cases h3 : pop (mb τ e r d P (1 + j)) = 1
        · rw [if_pos h3, if_neg n0, if_neg (fun z => j2 ((nI_eq (by have := ml 0; omega) (by have := ml (1 + j); omega)).mp z).symm)]
          rfl
        · rw [if_neg h3]
          rfl
      · rw [show (if i + 1 = 0 then nI 0 else nI (mb τ e r d P 0)) = nI (mb τ e r d P 0) from if_neg (by omega)]
        by_cases i0 : i = 0
        · rw [i0, show (if 0 = 0 then nI 0 else nI (mb τ e r d P 0)) = nI 0 from if_pos rfl, st 0 (by omega), if_pos h1, if_pos (show nI 0 = 0 from rfl)]
        · have ei : mb τ e r d P i = mb τ e r d P 0 := Classical.byContradiction fun z => j3 (i - 1) (by omega) ⟨by omega, by rw [show 1 + (i - 1) = i by omega]; exact z⟩
          rw [show (if i = 0 then nI 0 else nI (mb τ e r d P 0)) = nI (mb τ e r d P 0) from if_neg i0, st i (by omega), ei, if_pos h1, if_neg n0, if_pos rfl]
  · refine ⟨0, ?_, by omega, ⟨fun z => absurd rfl z, fun z => by rw [decide_eq_false h1, Bool.and_false] at z; cases z⟩⟩
    refine sq3 0 (fun i => nI 0) (fun i => nI i) (fun _ => h) (fun self => ?_) (fun self i hi => by omega) (by omega) rfl rfl rfl
    rw [st 0 (by omega), if_neg h1]
    rfl
/-- a row with which the TEXT is mended -/
def QM (σ : Nat → Nat) (k n j : Nat) : Prop := gr σ k n j ≠ none ∧ agm σ (σ 3) (σ 4) n j = true
def MW (σ : Nat → Nat) (h : Hp) : Prop := h.2.2 122 3 = 18 ∧ h.1 18 1 = nI (σ 437) ∧ ∀ i, i < σ 437 → h.1 19 i = nI (σ (438 + i))
theorem MW.same (M : MW σ h) (s : Same [124, 125, 129] h h') : MW σ h' := ⟨by rw [(s 122 (by decide)).2.2]; exact M.1, by rw [(s 18 (by decide)).1]; exact M.2.1, by rw [(s 19 (by decide)).1]; exact M.2.2⟩
theorem c_seekM {k n : Nat} (hS : SgOk σ nm) (s10 : σ 437 ≤ 10) (k3 : k ≤ 3) (hn : n = σ 437 + k) (S0 : 0 < σ 2) : ∀ (m d P t : Nat) (h : Hp) (f : Nat), d + m = n → m < f → gr σ k d P = some t → t ≤ σ 437 → WB σ nm (σ 3) (σ 4) (gw 10 10) none (nI n) h → MW σ h → WL σ (σ 3) (σ 4) (gw 10 10) none d P h → ∃ v h', itr3 E_X2_seekWithIdle f (nI d) (nI t) h = some (nI v.toNat, h') ∧ Same [124, 125, 129] h h' ∧ (v = true → ∃ j, P * σ 2 ^ m ≤ j ∧ j < (P + 1) * σ 2 ^ m ∧ QM σ k n j ∧ (∀ i, P * σ 2 ^ m ≤ i → i < j → ¬ QM σ k n i) ∧ ∀ i, i < n → h'.1 129 i = nI (dgt (σ 2) n j i)) ∧ (v = false → (∀ j, P * σ 2 ^ m ≤ j → j < (P + 1) * σ 2 ^ m → ¬ QM σ k n j) ∧ WL σ (σ 3) (σ 4) (gw 10 10) none d P h') := by
  have H := hS.1
  have h8 := H.1.2.2.1
  obtain ⟨-, -, -, e3, e3', e4, e4'⟩ := H.1
  intro m
  induction m with
  | zero =>
    intro d P t h f hdm hf hg ht B M L
    obtain ⟨f, rfl⟩ : ∃ q, f = q + 1 := ⟨f - 1, by omega⟩
    have hd : d = n := by omega
    subst hd
    obtain ⟨v, f1, v8, hv⟩ := c_agreedM B L H (by omega) (by omega) (Or.inr S0)
    have fe : itr3 E_X2_seekWithIdle (f + 1) (nI d) (nI t) h = some (nI (agm σ (σ 3) (σ 4) d P).toNat, h) := by
      show E_X2_seekWithIdle _ _ _ _ = _
      unfold E_X2_seekWithIdle
      rw [B.2.2.1.2.1, if_neg (nI_nlt (Nat.le_refl _) (by omega)), f1, bndS]
      cases ha : agm σ (σ 3) (σ 4) d P
      · have : v = 0 := Classical.byContradiction fun z => by rw [hv.mp z] at ha; cases ha
        rw [this, if_pos (show nI 0 = 0 from rfl)]
        rfl
      · rw [if_neg (show ¬ nI v = 0 from fun z => (hv.mpr ha) ((nI_eq (b := 0) (by omega) (by omega)).mp z))]
        rfl
    refine ⟨agm σ (σ 3) (σ 4) d P, h, fe, Same.rf, fun ha => ⟨P, by rw [Nat.pow_zero]; omega, by rw [Nat.pow_zero]; omega, ⟨by rw [hg]; exact fun z => (by cases z), ha⟩, fun i h1 h2 => by rw [Nat.pow_zero] at h1; omega, L.1⟩, fun ha => ⟨fun j h1 h2 hq => ?_, L⟩⟩
    rw [Nat.pow_zero] at h1 h2
    have : j = P := by omega
    rw [this, ] at hq
    rw [hq.2] at ha
    cases ha
  | succ m ih =>
    intro d P t h f hdm hf hg ht B M L
    obtain ⟨f, rfl⟩ : ∃ q, f = q + 1 := ⟨f - 1, by omega⟩
    obtain ⟨nx, enx⟩ : ∃ nx : Int32, nx = if t < σ 437 then nI (σ (438 + t)) else -1 := ⟨_, rfl⟩
    have wl : t < σ 437 → σ (438 + t) < σ 2 := fun hlt => by
      have := hS.2.1.2 t hlt
      rw [show 437 + 1 + t = 438 + t by omega] at this
      exact this
    have nxe : ∀ w, w < 8 → (nI w = nx) = (t < σ 437 ∧ σ (438 + t) = w) := fun w hw => by
      apply propext
      rw [enx]
      by_cases hlt : t < σ 437
      · rw [if_pos hlt]
        have := wl hlt
        exact ⟨fun z => ⟨hlt, ((nI_eq (by omega) (by omega)).mp z).symm⟩, fun z => by rw [z.2]⟩
      · rw [if_neg hlt]
        exact ⟨fun z => absurd z (nI_m1lt (by omega)), fun z => absurd z.1 hlt⟩
    have an : f_X7_atOrNone 18 (nI t) h = some (nx, h) := by
      rw [enx]
      by_cases hlt : t < σ 437
      · rw [if_pos hlt, row_at (r := 18) M.2.1 hlt (show σ 437 ≤ 24 by omega) (by decide)]
        have := M.2.2 t hlt
        rw [show (18 + 1 : Nat) = 19 from rfl, this]
      · rw [if_neg hlt]
        exact row_none M.2.1 (fun j hj z => by have := (nI_eq (by omega) (by omega)).mp z; omega) (by omega)
    obtain ⟨mp, emp⟩ : ∃ mp : Bool, mp = decide (d + 1 ≤ t + k) := ⟨_, rfl⟩
    have fe : itr3 E_X2_seekWithIdle (f + 1) (nI d) (nI t) h = itr2 (F_X2_seekWithIdle_68 (itr3 E_X2_seekWithIdle f) (nI d) (nI t) nx (nI mp.toNat) (fun h25 => some (1, h25)) (fun h26 => some (0, h26))) N0 (nI 0) h := by
      have fe2 : ∀ rec, E_X2_seekWithIdle rec (nI d) (nI t) h = itr2 (F_X2_seekWithIdle_68 rec (nI d) (nI t) nx (nI mp.toNat) (fun h25 => some (1, h25)) (fun h26 => some (0, h26))) N0 (nI 0) h := fun rec => by
        unfold E_X2_seekWithIdle
        rw [B.2.2.1.2.1, if_pos (nI_lt (by omega) (by omega)), lt_s0, M.1, if_pos (by decide), an, bndS, lt_s0, M.1, if_pos (by decide), B.2.2.1.2.1, M.2.1, subN (by omega), subN ht, emp]
        by_cases hc : d + 1 ≤ t + k
        · rw [if_neg (nI_ge (by omega) (by omega)), decide_eq_true hc]
          rfl
        · rw [if_pos (nI_le (by omega) (by omega)), decide_eq_false hc]
          rfl
      exact fe2 _
    have LL := loopE (F := F_X2_seekWithIdle_68 (itr3 E_X2_seekWithIdle f) (nI d) (nI t) nx (nI mp.toNat) (fun h25 => some (1, h25)) (fun h26 => some (0, h26))) (k0 := fun h25 => some (1, h25)) (k1 := fun h26 => some (0, h26)) 0 (σ 2) (by omega) (fun w => ∀ j, (P * σ 2 + w) * σ 2 ^ m ≤ j → j < (P * σ 2 + w + 1) * σ 2 ^ m → ¬ QM σ k n j) (fun w y => Same [124, 125, 129] h y ∧ WL σ (σ 3) (σ 4) (gw 10 10) none d P y ∧ ∀ j, P * σ 2 ^ (m + 1) ≤ j → j < (P * σ 2 + w) * σ 2 ^ m → ¬ QM σ k n j) (fun y => Same [124, 125, 129] h y ∧ ∃ j, P * σ 2 ^ (m + 1) ≤ j ∧ j < (P + 1) * σ 2 ^ (m + 1) ∧ QM σ k n j ∧ (∀ i, P * σ 2 ^ (m + 1) ≤ i → i < j → ¬ QM σ k n i) ∧ ∀ i, i < n → y.1 129 i = nI (dgt (σ 2) n j i)) (fun self y ⟨z1, _⟩ => by
        have By : WB σ nm (σ 3) (σ 4) (gw 10 10) none (nI n) y := B.same (z1.mono (fun q hq => by simp only [List.mem_cons, List.not_mem_nil, or_false] at hq ⊢; omega))
        unfold F_X2_seekWithIdle_68
        rw [lt_s0, By.2.1.2, if_pos (by decide), By.1.1.2.2.1, if_pos (nI_le (Nat.le_refl _) (by omega))]) (fun self w y _ hw ⟨z1, z2, z3⟩ => by
        have By : WB σ nm (σ 3) (σ 4) (gw 10 10) none (nI n) y := B.same (z1.mono (fun q hq => by simp only [List.mem_cons, List.not_mem_nil, or_false] at hq ⊢; omega))
        have hl : (nI (d + 1) = nI n) = (decide (d + 1 = n) = true) := by
          rw [decide_eq_true_eq]
          exact propext (nI_eq (by omega) (by omega))
        have sm1 := sub_mul P (σ 2) w m
        have sm2 := sub_mul P (σ 2) (w + 1) m
        have pm : (w + 1) * σ 2 ^ m = w * σ 2 ^ m + σ 2 ^ m := by rw [Nat.add_mul, Nat.one_mul]
        have pt : (P + 1) * σ 2 ^ (m + 1) = P * σ 2 ^ (m + 1) + σ 2 * σ 2 ^ m := by rw [Nat.add_mul, Nat.one_mul, pwS]
        have wt : (w + 1) * σ 2 ^ m ≤ σ 2 * σ 2 ^ m := Nat.mul_le_mul_right _ (by omega)
        have upk : ∀ j, (P * σ 2 + w) * σ 2 ^ m ≤ j → j < (P * σ 2 + w + 1) * σ 2 ^ m → up (σ 2) n j (d + 1) = P * σ 2 + w := fun j h1 h2 => by
          unfold up
          rw [show n - (d + 1) = m by omega]
          exact in_sub h1 h2
        have gs : gr σ k (d + 1) (P * σ 2 + w) = gst σ k d t w := by rw [gr_s hw, hg]
        have skip : ∀ y2, Same [124, 125, 129] y y2 → WL σ (σ 3) (σ 4) (gw 10 10) none d P y2 → (∀ j, (P * σ 2 + w) * σ 2 ^ m ≤ j → j < (P * σ 2 + w + 1) * σ 2 ^ m → ¬ QM σ k n j) → F_X2_seekWithIdle_68 (itr3 E_X2_seekWithIdle f) (nI d) (nI t) nx (nI mp.toNat) (fun h25 => some (1, h25)) (fun h26 => some (0, h26)) self (nI w) y = self (nI (w + 1)) y2 → ((∀ j, (P * σ 2 + w) * σ 2 ^ m ≤ j → j < (P * σ 2 + w + 1) * σ 2 ^ m → ¬ QM σ k n j) ∧ ∃ h', F_X2_seekWithIdle_68 (itr3 E_X2_seekWithIdle f) (nI d) (nI t) nx (nI mp.toNat) (fun h25 => some (1, h25)) (fun h26 => some (0, h26)) self (nI w) y = self (nI (w + 1)) h' ∧ (Same [124, 125, 129] h h' ∧ WL σ (σ 3) (σ 4) (gw 10 10) none d P h' ∧ ∀ j, P * σ 2 ^ (m + 1) ≤ j → j < (P * σ 2 + (w + 1)) * σ 2 ^ m → ¬ QM σ k n j)) := fun y2 s2 L2 no ef => by
          refine ⟨no, y2, ef, z1.tr s2, L2, fun j h1 h2 => ?_⟩
          by_cases h3 : j < (P * σ 2 + w) * σ 2 ^ m
          · exact z3 j h1 h3
          · exact no j (by omega) h2
        -- whether w may come
        have b111 : ∀ t0 : Int32, B_X2_seekWithIdle_111 (itr3 E_X2_seekWithIdle f) (nI d) (nI t) nx (nI mp.toNat) (fun h25 => some (1, h25)) (fun h26 => some (0, h26)) self (nI w) t0 y = (if t0 = 0 then self (nI (w + 1)) y else bnd (f_X11_put (nI d) (nI w) y) fun v15 h14 => if v15 = 0 then self (nI (w + 1)) h14 else if nI w = nx then (bnd (itr3 E_X2_seekWithIdle f (nI (d + 1)) (nI (t + 1)) h14) fun v19 h18 => if v19 = 0 then self (nI (w + 1)) h18 else some (1, h18)) else (bnd (itr3 E_X2_seekWithIdle f (nI (d + 1)) (nI t) h14) fun v19 h18 => if v19 = 0 then self (nI (w + 1)) h18 else some (1, h18))) := fun t0 => by
          unfold B_X2_seekWithIdle_111 B_X2_seekWithIdle_148
          simp only [nI_1]
        have head : F_X2_seekWithIdle_68 (itr3 E_X2_seekWithIdle f) (nI d) (nI t) nx (nI mp.toNat) (fun h25 => some (1, h25)) (fun h26 => some (0, h26)) self (nI w) y = B_X2_seekWithIdle_111 (itr3 E_X2_seekWithIdle f) (nI d) (nI t) nx (nI mp.toNat) (fun h25 => some (1, h25)) (fun h26 => some (0, h26)) self (nI w) (nI (decide (gst σ k d t w ≠ none)).toNat) y := by
          unfold F_X2_seekWithIdle_68
          rw [lt_s0, By.2.1.2, if_pos (by decide), By.1.1.2.2.1, if_neg (nI_ge hw (by omega)), lt_s0, if_pos (show isO 8 7 = true by decide), c_idle By.1 H (by omega)]
          unfold gst
          by_cases c1 : t < σ 437 ∧ σ (438 + t) = w
          · rw [if_pos (by rw [nxe w (by omega)]; exact c1), if_pos c1]
            rfl
          · rw [if_neg (by rw [nxe w (by omega)]; exact c1), if_neg c1, emp]
            by_cases c2 : d + 1 ≤ t + k
            · rw [decide_eq_true c2, if_neg (by decide)]
              by_cases c3 : σ (64 + w) = 1
              · rw [decide_eq_true c3, if_neg (by decide), if_pos ⟨c3, c2⟩]
                rfl
              · rw [decide_eq_false c3, if_pos (by decide), if_neg (fun z => c3 z.1)]
                rfl
            · rw [decide_eq_false c2, if_pos (by decide), if_neg (fun z => c2 z.2)]
              rfl
        rw [head] at skip ⊢
        rw [b111] at skip ⊢
        cases hgs : gst σ k d t w with
        | none =>
          rw [hgs] at skip
          left
          refine skip y Same.rf z2 (fun j h1 h2 hq => hq.1 ?_) (by rw [if_pos (by decide)])
          have := gr_dead S0 (d := d + 1) (by rw [upk j h1 h2, gs, hgs]) (n - (d + 1)) (by omega)
          rw [show d + 1 + (n - (d + 1)) = n by omega, up_self] at this
          exact this
        | some t' =>
          rw [hgs] at skip
          have ht' := gst_le ht hgs
          obtain ⟨v, y2, f1, s1, B1, L0, o1, L1⟩ := c_put (last := decide (d + 1 = n)) By z2 H (by omega) (by omega) hw (fun b hb => by unfold gw; rw [ite_self]; omega) (fun q hq => by cases hq) hl
          have tt : (if nI w = nx then (bnd (itr3 E_X2_seekWithIdle f (nI (d + 1)) (nI (t + 1)) y2) fun v19 h18 => if v19 = 0 then self (nI (w + 1)) h18 else some (1, h18)) else (bnd (itr3 E_X2_seekWithIdle f (nI (d + 1)) (nI t) y2) fun v19 h18 => if v19 = 0 then self (nI (w + 1)) h18 else some (1, h18))) = bnd (itr3 E_X2_seekWithIdle f (nI (d + 1)) (nI t') y2) fun v19 h18 => if v19 = 0 then self (nI (w + 1)) h18 else some (1, h18) := by
            unfold gst at hgs
            by_cases c1 : t < σ 437 ∧ σ (438 + t) = w
            · rw [if_pos c1] at hgs
              cases hgs
              rw [if_pos (by rw [nxe w (by omega)]; exact c1)]
            · rw [if_neg c1] at hgs
              rw [if_neg (by rw [nxe w (by omega)]; exact c1)]
              by_cases c2 : σ (64 + w) = 1 ∧ d + 1 ≤ t + k
              · rw [if_pos c2] at hgs
                cases hgs
                rfl
              · rw [if_neg c2] at hgs
                cases hgs
          have d1 : decide (some t' ≠ none) = true := decide_eq_true (fun z => by cases z)
          rw [d1, if_neg (show ¬ nI true.toNat = 0 by decide), f1, bndS, tt] at skip ⊢
          cases hv : v with
          | false =>
            left
            rw [hv] at skip
            refine skip y2 s1 L0 (fun j h1 h2 hq => ?_) (by rw [if_pos (by decide)])
            refine okp_no (kb := none) (d := d + 1) S0 (by omega) ?_ (agm_Qr hq.2)
            rw [upk j h1 h2]
            intro z
            have := o1.mpr z
            rw [hv] at this
            cases this
          | true =>
            rw [hv] at skip
            obtain ⟨v', y3, f2, s2, g1, g2⟩ := ih (d + 1) (P * σ 2 + w) t' y2 f (by omega) (by omega) (by rw [gs, hgs]) ht' B1 (M.same (z1.tr s1)) (L1 hv)
            rw [if_neg (by decide), f2, bndS] at skip ⊢
            cases hv' : v' with
            | false =>
              rw [hv'] at skip
              obtain ⟨no, L2⟩ := g2 hv'
              have Ly3 : WL σ (σ 3) (σ 4) (gw 10 10) none d P y3 := by
                have upS : ∀ i, i ≤ d → up (σ 2) (d + 1) (P * σ 2 + w) i = up (σ 2) d P i := fun i hi => up_lo hw hi
                refine ⟨fun i hi => ?_, fun i hi b hb h9 => ?_, fun q hq => by cases hq⟩
                · rw [L2.1 i (by omega), dgt_lo hw hi]
                · rw [L2.2.1 i (by omega) b hb h9, upS i hi]
              left
              exact skip y3 (s1.tr s2) Ly3 no (by rw [if_pos (by decide)])
            | true =>
              obtain ⟨j, k1, k2, k3, k4, k5⟩ := g1 hv'
              right
              refine ⟨fun z => z j k1 k2 k3, y3, by rw [if_neg (by decide)], z1.tr (s1.tr s2), j, by omega, by rw [show P * σ 2 + w + 1 = P * σ 2 + (w + 1) by omega, sm2] at k2; omega, k3, fun i h1 h2 => ?_, k5⟩
              by_cases h3 : i < (P * σ 2 + w) * σ 2 ^ m
              · exact z3 i h1 h3
              · exact k4 i (by omega) h2) h ⟨Same.rf, L, fun j h1 h2 => by
          rw [sub_mul, Nat.zero_mul] at h2
          omega⟩ (by omega)
    rcases LL with ⟨-, y, a2, a3, a4, a5⟩ | ⟨-, y, a2, a3, a4⟩
    · refine ⟨false, y, by rw [fe, a2]; rfl, a3, fun z => (by cases z), fun _ => ⟨fun j h1 h2 => a5 j h1 ?_, a4⟩⟩
      have e1 := sub_mul P (σ 2) (σ 2) m
      have e2 : (P + 1) * σ 2 ^ (m + 1) = P * σ 2 ^ (m + 1) + σ 2 * σ 2 ^ m := by rw [Nat.add_mul, Nat.one_mul, pwS]
      omega
    · exact ⟨true, y, by rw [fe, a2]; rfl, a3, fun _ => a4, fun z => by cases z⟩
end TR
