section TG
variable {tp : List Nat} {σ τ : Nat → Nat} {nm nm2 : Nat → List Nat} {K : Im} {fd : List Nat} {fl : Nat} {tn : Option Tn} {h h' : Hp}
/-- the walk begins -/
theorem c_begin {x e r : Nat} (hx : x < 123 ∨ 126 < x) (he : h.1 x 0 = nI e) (hr : h.1 x 1 = nI r) (e0 : 0 < e) (e5' : e ≤ 5) (r5 : r < 1000) : ∃ h', f_X11_begin 7 x h = some h' ∧ Same [123, 124, 125, 126] h h' ∧ (∀ j, j ≠ 6 → h'.1 123 j = h.1 123 j) ∧ h'.1 123 6 = nI e ∧ h'.2.2 123 5 = 7 ∧ (∀ i, i < 13 → h'.1 126 i = nI (bts (fun b => decide (0 < b) && stk e r b (i + 1)) (e + 1))) ∧ ∀ b, b ≤ e → h'.2.1 124 b = lN 1099511627776 ∧ h'.1 125 b = nI 0 := by
  obtain ⟨h2, eh2⟩ : ∃ q, q = sI (sR h 123 5 7) 123 6 (nI e) := ⟨_, rfl⟩
  have s2 : Same [123, 124, 125, 126] h h2 := by rw [eh2]; exact (Same.ofR (by decide)).tr (Same.ofI (by decide))
  obtain ⟨k1, ek1⟩ : ∃ k1 : Hp → Option Hp, k1 = fun h8 => itr2 (F_X11_begin_51 x (fun h20 => some h20)) N0 0 h8 := ⟨_, rfl⟩
  obtain ⟨g, f1, p1, p2, p3⟩ := loop2n (F := F_X11_begin_19 x k1) (k := k1) (e + 1) (fun i y => Same [124, 125] h2 y ∧ y.2.2 = h2.2.2 ∧ ∀ b, b < i → y.2.1 124 b = lN 1099511627776 ∧ y.1 125 b = nI 0) (fun self y ⟨z1, _⟩ => by
      unfold F_X11_begin_19
      rw [(z1 123 (by decide)).1, eh2, sI_s, if_pos (nI_lt (by omega) (by omega))]) (fun self i y hi ⟨z1, z2, z3⟩ => by
      refine ⟨sI (sL y 124 i (lN 1099511627776)) 125 i (nI 0), ?_, z1.tr ((Same.ofL (by decide)).tr (Same.ofI (by decide))), z2, fun b hb => ?_⟩
      · unfold F_X11_begin_19
        rw [(z1 123 (by decide)).1, eh2, sI_s, if_neg (nI_nlt (by omega) (by omega)), if_pos (inb_nI (by omega) (by decide)), lt_s0, if_pos (inb_nI (by omega) (by decide)), lt_s0, nI_clamp (by omega), nI_1]
        rfl
      · by_cases h1 : b = i
        · rw [h1, sI_s]
          exact ⟨sL_s, rfl⟩
        · rw [sI_nk1 h1]
          have := z3 b (by omega)
          exact ⟨(sL_nk1 h1).trans this.1, this.2⟩) h2 ⟨Same.rf, rfl, fun b hb => by omega⟩ (by omega)
  obtain ⟨y, f2, q1, q2, q3⟩ := loop2n (F := F_X11_begin_51 x (fun h20 => some h20)) (k := fun h20 => some h20) 13 (fun i y => Same [126] g y ∧ y.2 = g.2 ∧ ∀ j, j < i → y.1 126 j = nI (bts (fun b => decide (0 < b) && stk e r b (j + 1)) (e + 1))) (fun self y _ => by
      unfold F_X11_begin_51
      rw [if_pos (by decide)]) (fun self i y hi ⟨z1, z2, z3⟩ => by
      obtain ⟨y2, f3, w1, w2, w3, w4⟩ := loop2f (F := F_X11_begin_67 x (nI i) (fun h19 => self (nI i + 1) h19)) (k := fun h19 => self (nI i + 1) h19) 1 (e + 1) (by omega) (fun b z => Same [126] g z ∧ z.2 = g.2 ∧ z.1 126 i = nI (bts (fun b => decide (0 < b) && stk e r b (i + 1)) b) ∧ ∀ j, j ≠ i → z.1 126 j = y.1 126 j) (fun self z ⟨v1, _⟩ => by
          unfold F_X11_begin_67
          rw [(v1 123 (by decide)).1, (p1 123 (by decide)).1, eh2, sI_s, if_pos (nI_lt (by omega) (by omega))]) (fun self b z hb1 hb2 ⟨v1, v2, v3, v4⟩ => by
          have cx : z.1 x = h.1 x := by
            rw [(v1 x (by simp; omega)).1, (p1 x (by simp; omega)).1, eh2]
            exact funext fun j => (sI_ne1 (by omega)).trans rfl
          have cs := c_strikes (h := z) (x0 := x) (b := b) (p := i + 1) (e := e) (r := r) (by rw [cx]; exact he) (by rw [cx]; exact hr) e0 (by omega) r5 (by omega) (by omega)
          refine ⟨sI z 126 i (nI (bts (fun b => decide (0 < b) && stk e r b (i + 1)) (b + 1))), ?_, v1.tr (Same.ofI (by decide)), v2, sI_s, fun j hj => by rw [sI_nk1 hj]; exact v4 j hj⟩
          have b103 : ∀ t : Int32, nI (bts (fun b => decide (0 < b) && stk e r b (i + 1)) b) ||| t = nI (bts (fun b => decide (0 < b) && stk e r b (i + 1)) (b + 1)) → B_X11_begin_103 x (nI i) (fun h19 => self (nI b) h19) self (nI b) t (nI (bts (fun b => decide (0 < b) && stk e r b (i + 1)) b)) (nI i) z = self (nI (b + 1)) (sI z 126 i (nI (bts (fun b => decide (0 < b) && stk e r b (i + 1)) (b + 1)))) := fun t ht => by
            unfold B_X11_begin_103
            rw [if_pos (inb_nI (by omega) (by decide)), lt_s0, nI_clamp (by omega), ht, nI_1]
          unfold F_X11_begin_67
          rw [(v1 123 (by decide)).1, (p1 123 (by decide)).1, eh2, sI_s, if_neg (nI_nlt (by omega) (by omega)), if_pos (inb_nI (by omega) (by decide)), nI_1, cs, bndS, nI_clamp (by omega), v3]
          cases hs : stk e r b (i + 1)
          · rw [if_pos (by decide)]
            exact b103 0 (by rw [li_0, fa_or, bts_s, hs, Bool.and_false]; rfl)
          · rw [if_neg (by decide), li_1, shl1 (by omega)]
            exact b103 _ (by rw [fa_or, bts_s, hs, decide_eq_true (show 0 < b by omega)]; rfl)) (sI y 126 i (nI 0)) ⟨z1.tr (Same.ofI (by decide)), z2, by rw [sI_s, bts_1 rfl], fun j hj => sI_nk1 hj⟩ (by omega)
      refine ⟨y2, ?_, w1, w2, fun j hj => ?_⟩
      · unfold F_X11_begin_51
        rw [if_neg (show ¬ (13 : Int32) ≤ nI i from nI_ge (b := 13) hi (by decide)), if_pos (inb_nI (by omega) (by decide)), lt_s0, nI_clamp (by omega), li_0, li_1]
        rw [li_1] at f3
        rw [f3, nI_add]
      · by_cases h1 : j = i
        · rw [h1]; exact w3
        · rw [w4 j h1]; exact z3 j (by omega)) g ⟨Same.rf, rfl, fun j hj => by omega⟩ (by omega)
  have jm : jmin ((sR h 123 5 7).1 x 0) 5 = nI e := by
    show jmin (h.1 x 0) (nI 5) = _
    rw [he, minT e5' (by decide)]
  refine ⟨y, ?_, ?_, ?_, ?_, ?_, q3, ?_⟩
  · unfold f_X11_begin
    rw [lt_s0, lt_s0, jm, ← eh2, ← ek1, li_0, f1, ek1]
    show itr2 _ N0 0 g = _
    rw [li_0, f2]
  · exact s2.tr ((p1.mono (fun q hq => by simp only [List.mem_cons, List.not_mem_nil, or_false] at hq ⊢; omega)).tr (q1.mono (fun q hq => by simp only [List.mem_cons, List.not_mem_nil, or_false] at hq ⊢; omega)))
  · intro j hj
    rw [(q1 123 (by decide)).1, (p1 123 (by decide)).1, eh2, sI_nk1 hj]
    rfl
  · rw [(q1 123 (by decide)).1, (p1 123 (by decide)).1, eh2, sI_s]
  · rw [q2, p2, eh2]
    rfl
  · intro b hb
    have := p3 b (by omega)
    rw [q2, (q1 125 (by decide)).1]
    exact this
theorem WL_0 {e r : Nat} {g : Nat → Nat} {kb : Option Nat} (P : Nat) (hl : ∀ b, b ≤ e → h.2.1 124 b = lN 1099511627776 ∧ h.1 125 b = nI 0) : WL τ e r g kb 0 P h := by
  refine ⟨fun i hi => absurd hi (Nat.not_lt_zero _), fun i hi b hb _ => ?_, fun q _ i hi b _ hb => ?_⟩
  · rw [show i = 0 by omega, rs_0, show 0 * 6 + b = b by omega]
    exact (hl b hb).1
  · rw [show i = 0 by omega, bs_0, show 0 * 6 + b = b by omega]
    exact (hl b hb).2
/-- what is not put has no row -/
theorem okp_no {e r d n k : Nat} {g : Nat → Nat} {kb : Option Nat} (h0 : 0 < τ 2) (hd : d ≤ n) (hn : ¬ okp τ e r g kb (decide (d = n)) d (up (τ 2) n k d)) : ¬ Qr τ e r g kb n k := by
  intro ⟨q1, q2⟩
  have un : up (τ 2) n k n = k := up_self _ _ _
  apply hn
  refine ⟨fun q hq b h1 h2 => ⟨?_, fun hl => ?_⟩, fun b hb h9 => ⟨?_, fun hl => ?_⟩⟩
  · have := bs_mono (e := e) (r := r) (b := b) (n := n) (k := k) h0 (d := d) (n - d) (by omega)
    rw [show d + (n - d) = n by omega, un, q1 q hq b h1 h2] at this
    exact this
  · rw [of_decide_eq_true hl, un]
    exact q1 q hq b h1 h2
  · apply Classical.byContradiction
    intro hc
    have hz : rs τ e r b d (up (τ 2) n k d) = 0 := Classical.byContradiction fun z => hc (Or.inl z)
    have h8 : g b ≠ 8 := fun z => hc (Or.inr z)
    have := rs_dead h0 hz (n - d) (by omega)
    rw [show d + (n - d) = n by omega, un] at this
    have q := q2 b hb
    rw [this, mnt_0] at q
    exact gok_0 h8 h9 q
  · rw [of_decide_eq_true hl, un]
    exact q2 b hb
theorem okp_yes {e r n k : Nat} {g : Nat → Nat} {kb : Option Nat} (ho : okp τ e r g kb true n k) : Qr τ e r g kb n k := by
  refine ⟨fun q hq b h1 h2 => (ho.1 q hq b h1 h2).2 rfl, fun b hb => ?_⟩
  by_cases h9 : g b = 9
  · rw [h9]; rfl
  · exact (ho.2 b hb h9).2 rfl
theorem sub_mul (P S w m : Nat) : (P * S + w) * S ^ m = P * S ^ (m + 1) + w * S ^ m := by
  rw [Nat.add_mul, Nat.pow_succ, Nat.mul_assoc, Nat.mul_comm S (S ^ m)]
/-- the class seeks a row -/
theorem c_seek {e r n : Nat} {g : Nat → Nat} {kb : Option Nat} (H : TgOk τ nm) (he : e ≤ 5) (hg : ∀ b, b ≤ e → g b ≤ 10) (hk : ∀ q, kb = some q → q ≤ 1000) (hn : n ≤ 13) : ∀ (m d P : Nat) (h : Hp) (f : Nat), d + m = n → m < f → WB τ nm e r g kb (nI n) h → WL τ e r g kb d P h → (m = 0 → Qr τ e r g kb n P) → ∃ v h', itr2 E_X2_seek f (nI d) h = some (nI v.toNat, h') ∧ Same [124, 125, 129] h h' ∧ (v = true → ∃ k, P * τ 2 ^ m ≤ k ∧ k < (P + 1) * τ 2 ^ m ∧ Qr τ e r g kb n k ∧ (∀ j, P * τ 2 ^ m ≤ j → j < k → ¬ Qr τ e r g kb n j) ∧ ∀ i, i < n → h'.1 129 i = nI (dgt (τ 2) n k i)) ∧ (v = false → (∀ k, P * τ 2 ^ m ≤ k → k < (P + 1) * τ 2 ^ m → ¬ Qr τ e r g kb n k) ∧ WL τ e r g kb d P h') := by
  have h8 := H.1.2.2.1
  intro m
  induction m with
  | zero =>
    intro d P h f hdm hf B L hQ
    obtain ⟨f, rfl⟩ : ∃ q, f = q + 1 := ⟨f - 1, by omega⟩
    have hd : d = n := by omega
    subst hd
    refine ⟨true, h, ?_, Same.rf, fun _ => ⟨P, by rw [Nat.pow_zero]; omega, by rw [Nat.pow_zero]; omega, hQ rfl, fun j h1 h2 => by rw [Nat.pow_zero] at h1; omega, L.1⟩, fun z => by cases z⟩
    show E_X2_seek _ _ _ = _
    unfold E_X2_seek
    rw [B.2.2.1.2.1, if_neg (nI_nlt (Nat.le_refl _) (by omega))]
    rfl
  | succ m ih =>
    intro d P h f hdm hf B L _
    obtain ⟨f, rfl⟩ : ∃ q, f = q + 1 := ⟨f - 1, by omega⟩
    have fe : itr2 E_X2_seek (f + 1) (nI d) h = itr2 (F_X2_seek_15 (itr2 E_X2_seek f) (nI d) (fun h11 => some (1, h11)) (fun h12 => some (0, h12))) N0 (nI 0) h := by
      show E_X2_seek _ _ _ = _
      unfold E_X2_seek
      rw [B.2.2.1.2.1, if_pos (nI_lt (by omega) (by omega)), li_0]
    have LL := loopE (F := F_X2_seek_15 (itr2 E_X2_seek f) (nI d) (fun h11 => some (1, h11)) (fun h12 => some (0, h12))) (k0 := fun h11 => some (1, h11)) (k1 := fun h12 => some (0, h12)) 0 (τ 2) (by omega) (fun w => ∀ k, (P * τ 2 + w) * τ 2 ^ m ≤ k → k < (P * τ 2 + w + 1) * τ 2 ^ m → ¬ Qr τ e r g kb n k) (fun w y => Same [124, 125, 129] h y ∧ WL τ e r g kb d P y ∧ ∀ k, P * τ 2 ^ (m + 1) ≤ k → k < (P * τ 2 + w) * τ 2 ^ m → ¬ Qr τ e r g kb n k) (fun y => Same [124, 125, 129] h y ∧ ∃ k, P * τ 2 ^ (m + 1) ≤ k ∧ k < (P + 1) * τ 2 ^ (m + 1) ∧ Qr τ e r g kb n k ∧ (∀ j, P * τ 2 ^ (m + 1) ≤ j → j < k → ¬ Qr τ e r g kb n j) ∧ ∀ i, i < n → y.1 129 i = nI (dgt (τ 2) n k i)) (fun self y ⟨z1, _⟩ => by
        have By : WB τ nm e r g kb (nI n) y := B.same (z1.mono (fun q hq => by simp only [List.mem_cons, List.not_mem_nil, or_false] at hq ⊢; omega))
        unfold F_X2_seek_15
        rw [lt_s0, By.2.1.2, if_pos (by decide), By.1.1.2.2.1, if_pos (nI_le (Nat.le_refl _) (by omega))]) (fun self w y _ hw ⟨z1, z2, z3⟩ => by
        have By : WB τ nm e r g kb (nI n) y := B.same (z1.mono (fun q hq => by simp only [List.mem_cons, List.not_mem_nil, or_false] at hq ⊢; omega))
        have hl : (nI (d + 1) = nI n) = (decide (d + 1 = n) = true) := by
          rw [decide_eq_true_eq]
          exact propext (nI_eq (by omega) (by omega))
        have sm1 := sub_mul P (τ 2) w m
        have sm2 := sub_mul P (τ 2) (w + 1) m
        have pm : (w + 1) * τ 2 ^ m = w * τ 2 ^ m + τ 2 ^ m := by rw [Nat.add_mul, Nat.one_mul]
        have pt : (P + 1) * τ 2 ^ (m + 1) = P * τ 2 ^ (m + 1) + τ 2 * τ 2 ^ m := by rw [Nat.add_mul, Nat.one_mul, Nat.pow_succ, Nat.mul_comm (τ 2) (τ 2 ^ m)]
        have wt : (w + 1) * τ 2 ^ m ≤ τ 2 * τ 2 ^ m := Nat.mul_le_mul_right _ (by omega)
        have upk : ∀ k, (P * τ 2 + w) * τ 2 ^ m ≤ k → k < (P * τ 2 + w + 1) * τ 2 ^ m → up (τ 2) n k (d + 1) = P * τ 2 + w := fun k h1 h2 => by
          unfold up
          rw [show n - (d + 1) = m by omega]
          exact in_sub h1 h2
        obtain ⟨v, y2, f1, s1, B1, L0, o1, L1⟩ := c_put (last := decide (d + 1 = n)) By z2 H he (by omega) hw hg hk hl
        have head : F_X2_seek_15 (itr2 E_X2_seek f) (nI d) (fun h11 => some (1, h11)) (fun h12 => some (0, h12)) self (nI w) y = (if nI v.toNat = 0 then self (nI w + 1) y2 else bnd (itr2 E_X2_seek f (nI d + 1) y2) fun v9 h8 => (if v9 = 0 then self (nI w + 1) h8 else some (1, h8))) := by
          unfold F_X2_seek_15
          rw [lt_s0, By.2.1.2, if_pos (by decide), By.1.1.2.2.1, if_neg (nI_ge hw (by omega)), f1, bndS]
        rw [head]
        cases hv : v with
        | false =>
          have no : ∀ k, (P * τ 2 + w) * τ 2 ^ m ≤ k → k < (P * τ 2 + w + 1) * τ 2 ^ m → ¬ Qr τ e r g kb n k := fun k h1 h2 => by
            refine okp_no (d := d + 1) (by omega) (by omega) ?_
            rw [upk k h1 h2]
            intro z
            have := o1.mpr z
            rw [hv] at this
            cases this
          refine Or.inl ⟨no, y2, by rw [if_pos (by decide), nI_1], z1.tr s1, L0, fun k h1 h2 => ?_⟩
          by_cases h3 : k < (P * τ 2 + w) * τ 2 ^ m
          · exact z3 k h1 h3
          · exact no k (by omega) h2
        | true =>
          have ok := o1.mp hv
          obtain ⟨v', y3, f2, s2, g1, g2⟩ := ih (d + 1) (P * τ 2 + w) y2 f (by omega) (by omega) B1 (L1 hv) (fun hm => by
            have : d + 1 = n := by omega
            rw [decide_eq_true this] at ok
            subst this
            exact okp_yes ok)
          rw [if_neg (by decide), nI_1, f2, bndS]
          cases hv' : v' with
          | false =>
            obtain ⟨no, -⟩ := g2 hv'
            have Ly3 : WL τ e r g kb d P y3 := by
              have := (g2 hv').2
              have upS : ∀ i, i ≤ d → up (τ 2) (d + 1) (P * τ 2 + w) i = up (τ 2) d P i := fun i hi => up_lo hw hi
              refine ⟨fun i hi => ?_, fun i hi b hb h9 => ?_, fun q hq i hi b h1 h2 => ?_⟩
              · rw [this.1 i (by omega), dgt_lo hw hi]
              · rw [this.2.1 i (by omega) b hb h9, upS i hi]
              · rw [this.2.2 q hq i (by omega) b h1 h2, upS i hi]
            refine Or.inl ⟨no, y3, by rw [if_pos (by decide), nI_1], z1.tr (s1.tr s2), Ly3, fun k h1 h2 => ?_⟩
            by_cases h3 : k < (P * τ 2 + w) * τ 2 ^ m
            · exact z3 k h1 h3
            · exact no k (by omega) h2
          | true =>
            obtain ⟨k, k1, k2, k3, k4, k5⟩ := g1 hv'
            refine Or.inr ⟨fun z => z k k1 k2 k3, y3, by rw [if_neg (by decide)], z1.tr (s1.tr s2), k, by omega, by rw [show P * τ 2 + w + 1 = P * τ 2 + (w + 1) by omega, sm2] at k2; omega, k3, fun j h1 h2 => ?_, k5⟩
            by_cases h3 : j < (P * τ 2 + w) * τ 2 ^ m
            · exact z3 j h1 h3
            · exact k4 j (by omega) h2) h ⟨Same.rf, L, fun k h1 h2 => by
          rw [sub_mul, Nat.zero_mul] at h2
          omega⟩ (by omega)
    rcases LL with ⟨-, y, a2, a3, a4, a5⟩ | ⟨-, y, a2, a3, a4⟩
    · refine ⟨false, y, by rw [fe, a2]; rfl, a3, fun z => (by cases z), fun _ => ⟨fun k h1 h2 => a5 k h1 ?_, a4⟩⟩
      have e1 := sub_mul P (τ 2) (τ 2) m
      have e2 : (P + 1) * τ 2 ^ (m + 1) = P * τ 2 ^ (m + 1) + τ 2 * τ 2 ^ m := by rw [Nat.add_mul, Nat.one_mul, Nat.pow_succ, Nat.mul_comm (τ 2) (τ 2 ^ m)]
      omega
    · exact ⟨true, y, by rw [fe, a2]; rfl, a3, fun _ => a4, fun z => by cases z⟩
/-- the first of the shortest rows -/
def isSh (τ : Nat → Nat) (e r : Nat) (g : Nat → Nat) (kb : Option Nat) (most n k : Nat) : Prop := 1 ≤ n ∧ n ≤ most ∧ k < τ 2 ^ n ∧ Qr τ e r g kb n k ∧ (∀ j, j < k → ¬ Qr τ e r g kb n j) ∧ ∀ n', 1 ≤ n' → n' < n → ∀ j, j < τ 2 ^ n' → ¬ Qr τ e r g kb n' j
def noSh (τ : Nat → Nat) (e r : Nat) (g : Nat → Nat) (kb : Option Nat) (most : Nat) : Prop := ∀ n, 1 ≤ n → n ≤ most → ∀ j, j < τ 2 ^ n → ¬ Qr τ e r g kb n j
theorem c_seekShortest {x e r most : Nat} {g : Nat → Nat} {kb : Option Nat} (T : TgRep h 7 τ nm) (H : TgOk τ nm) (hx : x < 122 ∨ 129 < x) (hxe : h.1 x 0 = nI e) (hxr : h.1 x 1 = nI r) (e0 : 0 < e) (he : e ≤ 5) (r5 : r < 1000) (hg : ∀ b, b ≤ e → g b ≤ 10) (hk : ∀ q, kb = some q → q ≤ 1000) (hm : most ≤ 6) (h7 : ∀ b, b ≤ e → h.1 127 b = nI (g b)) (hkb : h.1 123 8 = kbI kb) : ∃ h', Same [122, 123, 124, 125, 126, 128, 129] h h' ∧ h'.1 123 8 = kbI kb ∧ ((∃ n k, isSh τ e r g kb most n k ∧ f_X2_seekShortest 7 x (nI most) h = some (nI n, h') ∧ h'.1 128 1 = nI n ∧ ∀ i, i < n → h'.1 129 i = nI (dgt (τ 2) n k i)) ∨ (noSh τ e r g kb most ∧ f_X2_seekShortest 7 x (nI most) h = some (-1, h'))) := by
  obtain ⟨h1, eh1⟩ : ∃ q, q = sR h 122 2 7 := ⟨_, rfl⟩
  have s1 : Same [122] h h1 := by rw [eh1]; exact Same.ofR (by decide)
  have i1 : h1.1 = h.1 := by rw [eh1]; rfl
  obtain ⟨h2, f2, b1, b2, b3, b4, b5, b6⟩ := c_begin (h := h1) (x := x) (e := e) (r := r) (by omega) (by rw [i1]; exact hxe) (by rw [i1]; exact hxr) e0 he r5
  have s2 : Same [122, 123, 124, 125, 126, 128, 129] h h2 := (s1.mono (fun q hq => by simp only [List.mem_cons, List.not_mem_nil, or_false] at hq ⊢; omega)).tr (b1.mono (fun q hq => by simp only [List.mem_cons, List.not_mem_nil, or_false] at hq ⊢; omega))
  have p122 : h2.2.2 122 2 = 7 := by
    rw [(b1 122 (by decide)).2.2, eh1]
    rfl
  obtain ⟨kF, ekF⟩ : ∃ k : Int32 → Hp → Option (Int32 × Hp), k = fun v9 h8 => lt (sI h8 128 1 v9) fun h10 => some (v9, h10) := ⟨_, rfl⟩
  have LL := loopE (F := F_X2_seekShortest_17 (nI most) kF (fun h11 => some ((-1), h11))) (k0 := fun y => some (y.1 128 1, y)) (k1 := fun h11 => some ((-1), h11)) 1 (most + 1) (by omega) (fun n => ∀ j, j < τ 2 ^ n → ¬ Qr τ e r g kb n j) (fun n y => (Same [122, 123, 124, 125, 126, 128, 129] h y ∧ y.1 123 8 = kbI kb) ∧ (∀ ln, y.1 123 7 = ln → WB τ nm e r g kb ln y) ∧ WL τ e r g kb 0 0 y ∧ ∀ n', 1 ≤ n' → n' < n → ∀ j, j < τ 2 ^ n' → ¬ Qr τ e r g kb n' j) (fun y => (Same [122, 123, 124, 125, 126, 128, 129] h y ∧ y.1 123 8 = kbI kb) ∧ ∃ n k, isSh τ e r g kb most n k ∧ y.1 128 1 = nI n ∧ ∀ i, i < n → y.1 129 i = nI (dgt (τ 2) n k i)) (fun self y _ => by
      unfold F_X2_seekShortest_17
      rw [if_pos (nI_lt (by omega) (by omega))]) (fun self n y hn1 hn2 ⟨⟨z1, z1'⟩, z2, z3, z4⟩ => by
      obtain ⟨y1, ey1⟩ : ∃ q, q = sI y 123 7 (nI n) := ⟨_, rfl⟩
      have B0 := z2 _ rfl
      have B1 : WB τ nm e r g kb (nI n) y1 := by
        obtain ⟨c1, c2, c3, c4, c5⟩ := B0
        rw [ey1]
        refine ⟨c1.kept (fun q w1 w2 => ⟨funext fun j => sI_ne1 (by omega), rfl⟩), c2, ⟨?_, sI_s, ?_⟩, fun i hi => ?_, fun b hb => ?_⟩
        · rw [sI_nk1 (by decide)]; exact c3.1
        · rw [sI_nk1 (by decide)]; exact c3.2.2
        · rw [sI_ne1 (by decide)]; exact c4 i hi
        · rw [sI_ne1 (by decide)]; exact c5 b hb
      have L1 : WL τ e r g kb 0 0 y1 := by
        rw [ey1]
        exact ⟨fun i hi => absurd hi (Nat.not_lt_zero _), z3.2.1, fun q hq i hi b w1 w2 => by rw [sI_ne1 (by decide)]; exact z3.2.2 q hq i hi b w1 w2⟩
      obtain ⟨v, y2, f3, s3, g1, g2⟩ := c_seek (n := n) H he hg hk (by omega) n 0 0 y1 400 (by omega) (by omega) B1 L1 (fun z => by omega)
      rw [Nat.zero_mul, Nat.zero_add, Nat.one_mul] at g1 g2
      have sy : Same [122, 123, 124, 125, 126, 128, 129] h y2 := by
        refine z1.tr (Same.tr (h1 := y1) ?_ (s3.mono (fun q hq => by simp only [List.mem_cons, List.not_mem_nil, or_false] at hq ⊢; omega)))
        rw [ey1]
        exact Same.ofI (by decide)
      have ky : y2.1 123 8 = kbI kb := by rw [(s3 123 (by decide)).1, ey1, sI_nk1 (by decide)]; exact z1'
      have head : F_X2_seekShortest_17 (nI most) kF (fun h11 => some ((-1), h11)) self (nI n) y = (if nI v.toNat = 0 then self (nI (n + 1)) y2 else kF (nI n) y2) := by
        unfold F_X2_seekShortest_17 f_X2_seek
        rw [if_neg (nI_nlt (by omega) (by omega)), lt_s0, ← ey1, li_0, f3, bndS, nI_1]
      rw [head]
      cases hv : v with
      | false =>
        obtain ⟨no, L2⟩ := g2 hv
        have no' : ∀ j, j < τ 2 ^ n → ¬ Qr τ e r g kb n j := fun j hj => no j (by omega) hj
        refine Or.inl ⟨no', y2, by rw [if_pos (by decide)], ⟨sy, ky⟩, fun ln hln => ?_, L2, fun n' w1 w2 => ?_⟩
        · rw [(s3 123 (by decide)).1, ey1, sI_s] at hln
          rw [← hln]
          exact B1.same (s3.mono (fun q hq => by simp only [List.mem_cons, List.not_mem_nil, or_false] at hq ⊢; omega))
        · by_cases w3 : n' = n
          · rw [w3]; exact no'
          · exact z4 n' w1 (by omega)
      | true =>
        obtain ⟨k, k1, k2, k3, k4, k5⟩ := g1 hv
        refine Or.inr ⟨fun z => z k k2 k3, sI y2 128 1 (nI n), ?_, ⟨sy.tr (Same.ofI (by decide)), by rw [sI_ne1 (by decide)]; exact ky⟩, n, k, ⟨hn1, by omega, k2, k3, fun j hj => k4 j (by omega) hj, z4⟩, sI_s, fun i hi => by rw [sI_ne1 (by decide)]; exact k5 i hi⟩
        rw [if_neg (by decide), ekF]
        show some (nI n, sI y2 128 1 (nI n)) = some ((sI y2 128 1 (nI n)).1 128 1, sI y2 128 1 (nI n))
        rw [sI_s]) h2 ⟨⟨s2, by rw [b2 8 (by decide), i1]; exact hkb⟩, fun ln hln => ⟨T.kept (fun q w1 w2 => ⟨(s2 q (by simp; omega)).1, (s2 q (by simp; omega)).2.1⟩), ⟨b4, p122⟩, ⟨b3, hln, by rw [b2 8 (by decide), i1]; exact hkb⟩, b5, fun b hb => by rw [(b1 127 (by decide)).1, i1]; exact h7 b hb⟩, WL_0 0 b6, fun n' w1 w2 => by omega⟩ (by omega)
  have fe : f_X2_seekShortest 7 x (nI most) h = itr2 (F_X2_seekShortest_17 (nI most) kF (fun h11 => some ((-1), h11))) N0 (nI 1) h2 := by
    unfold f_X2_seekShortest
    rw [lt_s0, ← eh1, f2, bnvS, ← ekF, li_1]
  rcases LL with ⟨-, y, a2, ⟨a3, a3'⟩, a4, a5, a6⟩ | ⟨-, y, a2, ⟨a3, a3'⟩, n, k, a4, a5, a6⟩
  · exact ⟨y, a3, a3', Or.inr ⟨fun n w1 w2 => a6 n w1 (by omega), by rw [fe, a2]⟩⟩
  · exact ⟨y, a3, a3', Or.inl ⟨n, k, a4, by rw [fe, a2, a5], a5, a6⟩⟩
end TG
