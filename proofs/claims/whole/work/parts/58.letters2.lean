section TD
variable {tp : List Nat} {σ τ : Nat → Nat} {nm nm2 : Nat → List Nat} {K : Im} {fd : List Nat} {fl : Nat} {tn : Option Tn} {h h' : Hp}
theorem loop4n {A B β : Type} {F : (A → B → Int32 → Hp → Option β) → A → B → Int32 → Hp → Option β} {k : A → B → Hp → Option β} (n : Nat) (P : Nat → A → B → Hp → Prop) (hx : ∀ self a b h, P n a b h → F self a b (nI n) h = k a b h) (hs : ∀ self i a b h, i < n → P i a b h → ∃ a' b' h', F self a b (nI i) h = self a' b' (nI (i + 1)) h' ∧ P (i + 1) a' b' h') (a : A) (b : B) (h : Hp) (h0 : P 0 a b h) (hn : n ≤ 1000000) : ∃ a' b' h', itr4 F N0 a b (nI 0) h = k a' b' h' ∧ P n a' b' h' := by
  refine itr4_loop (F := F) (fun r => ∃ a' b' h', r = k a' b' h' ∧ P n a' b' h') (fun d a b x h => ∃ i, i ≤ n ∧ d = n - i ∧ x = nI i ∧ P i a b h) ?_ n a b (nI 0) h N0 (by have := N0_big; omega) ⟨0, by omega, by omega, rfl, h0⟩
  intro d self a b x h ⟨i, h1, h2, h3, h4⟩
  subst h3
  by_cases hi : i = n
  · subst hi
    exact Or.inl ⟨a, b, h, hx self a b h h4, h4⟩
  · obtain ⟨a', b', h', e1, e2⟩ := hs self i a b h (by omega) h4
    exact Or.inr ⟨n - (i + 1), a', b', nI (i + 1), h', by omega, ⟨i + 1, by omega, rfl, rfl, e2⟩, e1⟩
theorem loop4d8 {A B β : Type} {F : (A → B → Int32 → Hp → Option β) → A → B → Int32 → Hp → Option β} {k : A → B → Hp → Option β} (n : Nat) (P : Nat → A → B → Hp → Prop) (hx : ∀ self a b h, P 0 a b h → F self a b (-8) h = k a b h) (hs : ∀ self i a b h, i < n → P (i + 1) a b h → ∃ a' b' h', F self a b (nI (8 * i)) h = self a' b' (nI (8 * i) + (-8)) h' ∧ P i a' b' h') (a : A) (b : B) (h : Hp) (h0 : P n a b h) (hn : n ≤ 1000000) : ∃ a' b' h', itr4 F N0 a b (nI (8 * n) + (-8)) h = k a' b' h' ∧ P 0 a' b' h' := by
  refine itr4_loop (F := F) (fun r => ∃ a' b' h', r = k a' b' h' ∧ P 0 a' b' h') (fun d a b x h => d ≤ n ∧ x = nI (8 * d) + (-8) ∧ P d a b h) ?_ n a b (nI (8 * n) + (-8)) h N0 (by have := N0_big; omega) ⟨by omega, rfl, h0⟩
  intro d self a b x h ⟨h1, h2, h3⟩
  subst h2
  cases d with
  | zero => exact Or.inl ⟨a, b, h, hx self a b h h3, h3⟩
  | succ i =>
    have e : nI (8 * (i + 1)) + (-8) = nI (8 * i) := by
      show nI (8 * (i + 1)) + mI 8 = _
      rw [addM (by omega), show 8 * (i + 1) - 8 = 8 * i by omega]
    rw [e]
    obtain ⟨a', b', h', e1, e2⟩ := hs self i a b h (by omega) h3
    exact Or.inr ⟨i, a', b', nI (8 * i) + (-8), h', by omega, ⟨by omega, rfl, e2⟩, e1⟩
theorem loopQ3 {A B β : Type} {F : (A → B → Hp → Option β) → A → B → Hp → Option β} {k : Hp → Option β} (n : Nat) (u : Nat → A) (v : Nat → B) (P : Nat → Hp → Prop) (hx : ∀ self h, P n h → F self (u n) (v n) h = k h) (hs : ∀ self i h, i < n → P i h → ∃ h', F self (u i) (v i) h = self (u (i + 1)) (v (i + 1)) h' ∧ P (i + 1) h') (h : Hp) (h0 : P 0 h) (hn : n ≤ 1000000) : ∃ h', itr3 F N0 (u 0) (v 0) h = k h' ∧ P n h' := by
  refine itr3_loop (F := F) (fun r => ∃ h', r = k h' ∧ P n h') (fun d a b h => ∃ i, i ≤ n ∧ d = n - i ∧ a = u i ∧ b = v i ∧ P i h) ?_ n (u 0) (v 0) h N0 (by have := N0_big; omega) ⟨0, by omega, by omega, rfl, rfl, h0⟩
  intro d self a b h ⟨i, h1, h2, h3, h3', h4⟩
  subst h3; subst h3'
  by_cases hi : i = n
  · subst hi
    exact Or.inl ⟨h, hx self h h4, h4⟩
  · obtain ⟨h', e1, e2⟩ := hs self i h (by omega) h4
    exact Or.inr ⟨n - (i + 1), u (i + 1), v (i + 1), h', by omega, ⟨i + 1, by omega, rfl, rfl, rfl, e2⟩, e1⟩
/-- the reference's letters are 96 more -/
def lsL (f : Nat → Int32) (l : List Nat) : Prop := ∀ i, i < l.length → f i = nI (l.getD i 0 + 96)
theorem lsL.put {l : List Nat} {a w : Nat} (hl : lsL (h.1 a) l) : lsL ((sI h a l.length (nI (w + 96))).1 a) (l ++ [w]) := by
  intro i hi
  rw [List.length_append, List.length_singleton] at hi
  by_cases hi2 : i = l.length
  · subst hi2
    rw [sI_s]
    simp [List.getD_eq_getElem?_getD]
  · rw [sI_nk1 hi2, hl i (by omega)]
    simp [List.getD_eq_getElem?_getD, List.getElem?_append_left (show i < l.length by omega)]
theorem m_strikeL {b e r : Nat} {l : List Nat} {q : Nat × List Nat} {x4 : Int32} (h25 : h.1 155 25 = nI e) (h26 : h.1 155 26 = nI r) (e0 : 0 < e) (e1 : e < 1000) (r1 : r < 1000) (ok : okNm l) (hb : b < 1000) (q1 : q.1 ≤ 138) (q2 : q.2.length ≤ q.1) (hr : lsL (h.1 169) q.2) (kk : Int32 → Int32 → Hp → Option (Int64 × Hp)) : ∃ h', itr4 (F_X13_letters_82 (nI b) x4 (lN (nmM l)) kk) N0 (nI q.1) (nI q.2.length) 56 h = kk (nI (lfo (stk e r b) q l).1) (nI (lfo (stk e r b) q l).2.length) h' ∧ lsL (h'.1 169) (lfo (stk e r b) q l).2 ∧ Same [169] h h' ∧ h'.2 = h.2 := by
  have okl := ok.2.1
  obtain ⟨a, c, g, e, p0, p1, p2, p3, p4⟩ := loop4d8 (F := F_X13_letters_82 (nI b) x4 (lN (nmM l)) kk) (k := kk) 8 (fun i a c g => a = nI (lfo (stk e r b) q (l.take (l.length - i))).1 ∧ c = nI (lfo (stk e r b) q (l.take (l.length - i))).2.length ∧ lsL (g.1 169) (lfo (stk e r b) q (l.take (l.length - i))).2 ∧ Same [169] h g ∧ g.2 = h.2) (fun self a c g _ => by
      unfold F_X13_letters_82
      rw [if_pos (by decide)]) (fun self i a c g hi ⟨y0, y1, y2, y3, y4⟩ => by
      have lp := ll_pos ok (i := i)
      unfold F_X13_letters_82
      rw [if_neg (nI_pos (by omega)), lt_s0, m_letter ok hi]
      by_cases h1 : i < l.length
      · obtain ⟨b1, b2, -⟩ := lfo_b (stk e r b) q (l.take (l.length - (i + 1)))
        rw [List.length_take] at b1 b2
        have tk : l.take (l.length - i) = l.take (l.length - (i + 1)) ++ [ll l i] := by
          rw [show l.length - i = l.length - (i + 1) + 1 by omega, take_one (by omega)]
          unfold ll
          rw [if_pos h1, show l.length - (i + 1) = l.length - 1 - i by omega]
        have l32 := ll_lt ok.lt i
        have c1 := m_isStruck (h := g) (b := b) (p := (lfo (stk e r b) q (l.take (l.length - (i + 1)))).1 + 1) (e := e) (r := r) (by rw [(y3 155 (by decide)).1]; exact h25) (by rw [(y3 155 (by decide)).1]; exact h26) e0 e1 r1 hb (by omega)
        rw [if_pos h1, if_neg (show ¬ nI (ll l i + 96) = 0 from fun z => by have := (nI_eq (b := 0) (by omega) (by omega)).mp z; omega), y0, nI_1, c1, bndS, tk, lfo_snoc]
        generalize hq : lfo (stk e r b) q (l.take (l.length - (i + 1))) = w at *
        cases hs : stk e r b (w.1 + 1)
        · refine ⟨nI (w.1 + 1), nI (w.2.length + 1), sI g 169 w.2.length (nI (ll l i + 96)), ?_, rfl, ?_, ?_, y3.tr (Same.ofI (by decide)), y4⟩
          · show (if (nI 0 : Int32) = 0 then _ else _) = _
            rw [if_pos (by decide), y1, if_pos (inb_nI (by omega) (by decide)), lt_s0, nI_clamp (by omega), nI_1]
          · unfold lst
            rw [hs]
            simp
          · unfold lst
            rw [hs]
            simp only [Bool.false_eq_true, ↓reduceIte]
            exact lsL.put y2
        · refine ⟨nI (w.1 + 1), c, g, ?_, rfl, ?_, ?_, y3, y4⟩
          · show (if (nI 1 : Int32) = 0 then _ else _) = _
            rw [if_neg (by decide)]
          · unfold lst
            rw [hs]
            simpa using y1
          · unfold lst
            rw [hs]
            simpa using y2
      · have tk : l.take (l.length - i) = l.take (l.length - (i + 1)) := by rw [show l.length - i = l.length - (i + 1) by omega]
        refine ⟨a, c, g, ?_, by rw [tk]; exact y0, by rw [tk]; exact y1, by rw [tk]; exact y2, y3, y4⟩
        rw [if_neg h1, if_pos (by decide)]) (nI q.1) (nI q.2.length) h ⟨by rw [show l.length - 8 = 0 by omega]; rfl, by rw [show l.length - 8 = 0 by omega]; rfl, by rw [show l.length - 8 = 0 by omega]; exact hr, Same.rf, rfl⟩ (by omega)
  have e' : itr4 (F_X13_letters_82 (nI b) x4 (lN (nmM l)) kk) N0 (nI q.1) (nI q.2.length) 56 h = kk a c g := e
  rw [Nat.sub_zero, List.take_length] at p0 p1 p2
  exact ⟨g, by rw [e', p0, p1], p2, p3, p4⟩
theorem nmM_cons : ∀ (l : List Nat) (x : Nat), nmM (x :: l) = (x + 96) * 256 ^ l.length + nmM l := by
  intro l
  refine snoc_ind (P := fun l => ∀ x, nmM (x :: l) = (x + 96) * 256 ^ l.length + nmM l) ?_ ?_ l
  · intro x
    show 0 * 256 + (x + 96) = (x + 96) * 256 ^ 0 + 0
    omega
  · intro l y ih x
    have e : x :: (l ++ [y]) = (x :: l) ++ [y] := rfl
    rw [e, nmM_snoc, ih, nmM_snoc, List.length_append, List.length_singleton, Nat.pow_succ, Nat.add_mul, Nat.mul_assoc]
    omega
theorem last_s {L : List Nat} {to j : Nat} (h1 : to ≤ L.length) (h2 : j < to) (h6 : j < 6) (hm : ∀ x ∈ L, x < 32) : lN (nmM (sub L to j)) ||| lN ((L.getD (to - 1 - j) 0 + 96) * 2 ^ (8 * j)) = lN (nmM (sub L to (j + 1))) := by
  have a := nmM_lt (sub L to j) (sub_mem (P := fun x => x < 32) hm)
  rw [sub_len h1 (by omega)] at a
  have x32 := getD_P (P := fun x => x < 32) (show to - 1 - j < L.length by omega) hm
  have e : (2 : Nat) ^ (8 * j) = 256 ^ j := by rw [show (256 : Nat) = 2 ^ 8 from rfl, ← Nat.pow_mul]
  have p48 : 256 ^ j ≤ 256 ^ 5 := Nat.pow_le_pow_right (by decide) (by omega)
  have p5 : (256 : Nat) ^ 5 = 1099511627776 := by decide
  have m1 : (L.getD (to - 1 - j) 0 + 96) * 2 ^ (8 * j) ≤ 128 * 256 ^ j := by rw [e]; exact Nat.mul_le_mul_right _ (by omega)
  rw [wb_or (by omega) (by omega), or_add (by rw [e]; exact a), sub_s h1 h2, nmM_cons, sub_len h1 (by omega), e, Nat.add_comm]
theorem sm_one {f : Nat → Nat} {i : Nat} : ∀ n, i < n → (∀ j, j < n → j ≠ i → f j = 0) → sm f n = f i
  | 0, h1, _ => by omega
  | n + 1, h1, h2 => by
    show sm f n + f n = f i
    by_cases h3 : i = n
    · subst h3
      rw [sm_zero i (fun j hj => h2 j (by omega) (by omega)), Nat.zero_add]
    · rw [sm_one n (by omega) (fun j hj hne => h2 j (by omega) hne), h2 n (by omega) (by omega), Nat.add_zero]
theorem sum_mt (H : TgOk σ nm) {L : List Nat} {n : Nat} (h1 : n + 1 ≤ L.length) : sm (fun j => sm (fun w => if nm w = sub L (n + 1) (j + 1) then Wy σ nm L (n - j) else 0) (σ 2)) (min 6 (n + 1)) = sm (fun w => if mtB (nm w) L (n + 1) = true then Wy σ nm L (n + 1 - (nm w).length) else 0) (σ 2) := by
  rw [sm_swap (fun j w => if nm w = sub L (n + 1) (j + 1) then Wy σ nm L (n - j) else 0)]
  refine sm_cong _ (fun w hw => ?_)
  have ok := (H.2.2.2.1 w hw).2.2.2.2
  have ok1 := ok.1
  have ok2 := ok.2.1
  have len : ∀ j, j < min 6 (n + 1) → nm w = sub L (n + 1) (j + 1) → (nm w).length = j + 1 := fun j hj z => by
    rw [z]
    exact sub_len h1 (by omega)
  cases hm : mtB (nm w) L (n + 1)
  · unfold mtB at hm
    have hm := of_decide_eq_false hm
    refine sm_zero _ (fun j hj => ?_)
    refine if_neg (fun z => hm ?_)
    have := len j hj z
    exact ⟨by omega, by rw [this]; exact z⟩
  · unfold mtB at hm
    obtain ⟨m1, m2⟩ := of_decide_eq_true hm
    rw [sm_one (i := (nm w).length - 1) _ (by omega) (fun j hj hne => if_neg (fun z => hne (by have := len j hj z; omega)))]
    show (if nm w = sub L (n + 1) ((nm w).length - 1 + 1) then Wy σ nm L (n - ((nm w).length - 1)) else 0) = _
    rw [show (nm w).length - 1 + 1 = (nm w).length by omega, if_pos m2, show n - ((nm w).length - 1) = n + 1 - (nm w).length by omega]
    rfl
/-- a place more, as the reference counts -/
theorem m_split {n : Nat} {L : List Nat} {x3 : Int32} (H : TgOk σ nm) (ms : ∀ k, k < 713 → h.1 157 k = nI (σ k)) (mn : ∀ w, w < σ 2 → h.2.1 159 (8 + w) = lN (nmM (nm w))) (h1 : n + 1 ≤ L.length) (hL : L.length ≤ 144) (hm : ∀ x ∈ L, x < 32) (hr : lsL (h.1 169) L) (hs : ∀ k, k ≤ n → h.2.1 170 k = lN (Wy σ nm L k)) (h0 : h.2.1 170 (n + 1) = lN 0) (kk : Hp → Option (Int64 × Hp)) : ∃ h', itr3 (F_X13_letters_178 x3 (nI (n + 1)) kk) N0 0 (nI (n + 1) - 1) h = kk h' ∧ Same [170] h h' ∧ h'.1 = h.1 ∧ (∀ k, k ≤ n → h'.2.1 170 k = lN (Wy σ nm L k)) ∧ h'.2.1 170 (n + 1) = lN (sm (fun w => if mtB (nm w) L (n + 1) = true then Wy σ nm L (n + 1 - (nm w).length) else 0) (σ 2)) := by
  have h8 := H.1.2.2.1
  obtain ⟨g, e, p1, p2, p3, p4⟩ := loopQ3 (F := F_X13_letters_178 x3 (nI (n + 1)) kk) (k := kk) (min 6 (n + 1)) (fun j => lN (nmM (sub L (n + 1) j))) (fun j => if j ≤ n then nI (n - j) else -1) (fun j g => Same [170] h g ∧ g.1 = h.1 ∧ (∀ k, k ≤ n → g.2.1 170 k = lN (Wy σ nm L k)) ∧ g.2.1 170 (n + 1) = lN (sm (fun j => sm (fun w => if nm w = sub L (n + 1) (j + 1) then Wy σ nm L (n - j) else 0) (σ 2)) j)) (fun self g _ => by
      unfold F_X13_letters_178
      by_cases h2 : min 6 (n + 1) ≤ n
      · rw [if_pos h2, if_neg (nI_pos (by omega)), subN (by omega), if_pos (show (6 : Int32) < nI (n + 1 - (n - min 6 (n + 1))) from nI_lt (a := 6) (by omega) (by omega))]
      · rw [if_neg h2, if_pos (by decide)]) (fun self j g hj ⟨y1, y2, y3, y4⟩ => by
      have x32 := getD_P (P := fun x => x < 32) (show n + 1 - 1 - j < L.length by omega) hm
      have ls := last_s (L := L) (to := n + 1) (j := j) h1 (by omega) (by omega) hm
      have g9 : g.1 169 (n - j) = nI (L.getD (n + 1 - 1 - j) 0 + 96) := by
        rw [y2, show n - j = n + 1 - 1 - j by omega]
        exact hr _ (by omega)
      obtain ⟨g2, f2, r1, r2, r3, r4⟩ := loop2n (F := F_X13_letters_220 x3 (nI (n + 1)) (lN (nmM (sub L (n + 1) (j + 1)))) (nI (n - j)) (fun h39 => self (lN (nmM (sub L (n + 1) (j + 1)))) (nI (n - j) + (-1)) h39)) (k := fun h39 => self (lN (nmM (sub L (n + 1) (j + 1)))) (nI (n - j) + (-1)) h39) (σ 2) (fun w q => Same [170] h q ∧ q.1 = h.1 ∧ (∀ k, k ≤ n → q.2.1 170 k = lN (Wy σ nm L k)) ∧ q.2.1 170 (n + 1) = lN (sm (fun j => sm (fun w => if nm w = sub L (n + 1) (j + 1) then Wy σ nm L (n - j) else 0) (σ 2)) j + sm (fun w => if nm w = sub L (n + 1) (j + 1) then Wy σ nm L (n - j) else 0) w)) (fun self q ⟨_, z2, _⟩ => by
          unfold F_X13_letters_220
          rw [z2, li_2, clp (by omega), ms 2 (by omega), if_pos (nI_le (Nat.le_refl _) (by omega))]) (fun self w q hw ⟨z1, z2, z3, z4⟩ => by
          have ok := (H.2.2.2.1 w hw).2.2.2.2
          have q9 : q.2.1 159 (8 + w) = lN (nmM (nm w)) := by rw [(z1 159 (by decide)).2.1]; exact mn w hw
          have hsum : sm (fun w => if nm w = sub L (n + 1) (j + 1) then Wy σ nm L (n - j) else 0) (w + 1) = sm (fun w => if nm w = sub L (n + 1) (j + 1) then Wy σ nm L (n - j) else 0) w + (if nm w = sub L (n + 1) (j + 1) then Wy σ nm L (n - j) else 0) := rfl
          have m48 := ok.m48
          have s48 : nmM (sub L (n + 1) (j + 1)) < 9223372036854775808 := by
            have a := nmM_lt (sub L (n + 1) (j + 1)) (sub_mem (P := fun x => x < 32) hm)
            rw [sub_len h1 (by omega)] at a
            have b : 256 ^ (j + 1) ≤ 256 ^ 6 := Nat.pow_le_pow_right (by decide) (by omega)
            have c : (256 : Nat) ^ 6 = 281474976710656 := by decide
            omega
          have b266 : ∀ (kx : Hp → Option (Int64 × Hp)) (v : Nat), B_X13_letters_266 x3 (nI (n + 1)) (lN (nmM (sub L (n + 1) (j + 1)))) (nI (n - j)) kx self (nI w) (lN v) (q.2.1 170 (n + 1)) (nI (n + 1)) q = self (nI (w + 1)) (sL q 170 (n + 1) (q.2.1 170 (n + 1) + lN v)) := fun kx v => by
            unfold B_X13_letters_266
            rw [if_pos (inb_nI (by omega) (by decide)), lt_s0, nI_clamp (by omega), nI_1]
          refine ⟨sL q 170 (n + 1) (q.2.1 170 (n + 1) + lN (if nm w = sub L (n + 1) (j + 1) then Wy σ nm L (n - j) else 0)), ?_, z1.tr (Same.ofL (by decide)), z2, fun k hk => by rw [sL_nk1 (by omega)]; exact z3 k hk, by rw [sL_s, z4, lN_add, hsum, Nat.add_assoc]⟩
          unfold F_X13_letters_220
          rw [z2, li_2, clp (by omega), ms 2 (by omega), if_neg (nI_ge hw (by omega)), if_pos (inb_nI (by omega) (by decide)), li_8, nI_add, if_pos (inb_nI (by omega) (by decide)), nI_clamp (by omega), q9, li_0]
          simp only [lcE]
          rw [nI_clamp (by omega), nI_clamp (by omega), z3 _ (by omega)]
          by_cases hn : nm w = sub L (n + 1) (j + 1)
          · rw [if_pos hn, if_pos (by rw [hn]), if_pos (inb_nI (by omega) (by decide))]
            exact b266 _ _
          · rw [if_neg hn, if_neg (fun z => hn (nmM_inj ok.lt (sub_mem (P := fun x => x < 32) hm) ((pk_lEQ (by omega) s48).mp z)))]
            exact b266 _ 0) g ⟨y1, y2, y3, by rw [y4]; rfl⟩ (by omega)
      refine ⟨g2, ?_, r1, r2, r3, r4⟩
      unfold F_X13_letters_178
      rw [if_pos (show j ≤ n by omega), if_neg (nI_pos (by omega)), subN (by omega), if_neg (show ¬ (6 : Int32) < nI (n + 1 - (n - j)) from nI_nlt (a := 6) (by omega) (by omega)), if_pos (inb_nI (by omega) (by decide)), lt_s0, nI_clamp (by omega), g9, ItoL (by omega), nI_pred, subN (by omega), li_8, pk_mul, show n - (n - j) = j by omega, Lshl _ (by omega), ls, li_0, f2]
      have ev : nI (n - j) + (-1) = if j + 1 ≤ n then nI (n - (j + 1)) else -1 := by
        by_cases h3 : j + 1 ≤ n
        · rw [if_pos h3, nI_m1 (by omega), show n - j - 1 = n - (j + 1) by omega]
        · rw [if_neg h3, show n - j = 0 by omega]
          rfl
      rw [ev]) h ⟨Same.rf, rfl, hs, by rw [h0]; rfl⟩ (by omega)
  refine ⟨g, ?_, p1, p2, p3, by rw [p4, sum_mt H h1]⟩
  have s0 : sub L (n + 1) 0 = [] := by
    unfold sub
    rw [Nat.sub_zero]
    exact List.drop_eq_nil_of_le (by rw [List.length_take]; omega)
  have e' := e
  simp only [s0] at e'
  rw [if_pos (by omega), Nat.sub_zero] at e'
  rw [li_1, subN (by omega), Nat.add_sub_cancel]
  exact e'
theorem st_letters (x : Int32) (hI : Inv h) : ∃ v h1 h2, f_X12_letters x h = some (v, h1) ∧ f_X13_letters x h1 = some (v, h2) ∧ Inv h2 := by
  obtain ⟨tp, σ, nm, K, fd, fl, tn, hA, hC, hM⟩ := hI
  have hS := hA.2.1
  have H := hS.1
  have h8 := H.1.2.2.1
  have e3 := H.1.2.2.2.1
  have e5' := H.1.2.2.2.2.1
  have e4 := H.1.2.2.2.2.2
  have n24 := hS.2.1.1
  have t3 : h.1 9 0 = nI (σ 3) := hC.2.1.1.1.2.2.2.1
  rcases c_begAll x t3 (by omega) with ⟨b, hb, rfl, c1⟩ | ⟨c1, hb⟩
  · obtain ⟨g, f1, s1⟩ := c_waysOfLetters (b := b) hA hC (by omega)
    have C1 := hC.scr2 hA s1 (by decide)
    have M1 := (hM.hi (s1.hi (by decide))).keep (th_Eq 0)
    obtain ⟨g0, eg0⟩ : ∃ q, q = sI (sI (sI g 155 0 0) 155 25 (nI (σ 3))) 155 26 (nI (σ 4)) := ⟨_, rfl⟩
    have M2 : MR tp σ nm K fd fl tn g0 := by rw [eg0]; exact (M1.keep (EqM.ofI (by decide) (fun _ => by decide))).keep (EqM.ofI (by decide) (fun _ => by decide))
    have L0 : Lo g g0 := by rw [eg0]; exact ((th_Lo 0).tr ((Same.ofI (X := [155]) (by decide)).lo (by decide))).tr ((Same.ofI (X := [155]) (by decide)).lo (by decide))
    have g25 : g0.1 155 25 = nI (σ 3) := by rw [eg0, sI_nk1 (by decide), sI_s]
    have g26 : g0.1 155 26 = nI (σ 4) := by rw [eg0, sI_s]
    obtain ⟨k1, ek1⟩ : ∃ k1 : Int32 → Hp → Option (Int64 × Hp), k1 = fun v23 h22 => lt (sL h22 170 ((0 : Int32).toNatClampNeg) 1) fun h24 => itr2 (F_X13_letters_155 v23 (fun h46 => if inb v23 145 = true then some (h46.2.1 170 (v23.toNatClampNeg), h46) else none)) N0 1 h24 := ⟨_, rfl⟩
    obtain ⟨a, c, g1, f2, r0, r1, r2, r3⟩ := loop4n (F := F_X13_letters_44 (nI b) k1) (k := fun _ c q => k1 c q) (σ 437) (fun i a c q => (a = nI (acr σ nm b i).1 ∧ c = nI (acr σ nm b i).2.length) ∧ lsL (q.1 169) (acr σ nm b i).2 ∧ Same [169] g0 q ∧ q.2 = g0.2) (fun self a c q ⟨_, _, y2, _⟩ => by
        unfold F_X13_letters_44
        rw [li_437, clp (by omega), (y2 157 (by decide)).1, M2.2.1 437 (by omega), if_pos (nI_le (Nat.le_refl _) (by omega))]) (fun self i a c q hi ⟨⟨y0, y0'⟩, y1, y2, y3⟩ => by
        have w := hS.2.1.2 i hi
        rw [show 437 + 1 + i = 438 + i by omega] at w
        have ok := (hS.1.2.2.2.1 _ w).2.2.2.2
        obtain ⟨a1, a2, -⟩ := acr_b hS b i (by omega)
        obtain ⟨q2, f3, z1, z2, z3⟩ := m_strikeL (h := q) (b := b) (e := σ 3) (r := σ 4) (l := nm (σ (438 + i))) (q := acr σ nm b i) (x4 := nI i) (by rw [(y2 155 (by decide)).1]; exact g25) (by rw [(y2 155 (by decide)).1]; exact g26) (by omega) (by omega) (by omega) ok (by omega) (by omega) a2 y1 (fun v20 v21 h19 => self v20 v21 (nI i + 1) h19)
        refine ⟨nI (acr σ nm b (i + 1)).1, nI (acr σ nm b (i + 1)).2.length, q2, ?_, ⟨rfl, rfl⟩, z1, y2.tr z2, z3.trans y3⟩
        have q9 : q.2.1 159 (8 + σ (438 + i)) = lN (nmM (nm (σ (438 + i)))) := by rw [y3]; exact M2.2.2.1 _ w
        unfold F_X13_letters_44
        rw [li_437, clp (by omega), (y2 157 (by decide)).1, M2.2.1 437 (by omega), if_neg (nI_ge hi (by omega)), li_438, nI_add, if_pos (inb_nI (by omega) (by decide)), nI_clamp (by omega), M2.2.1 _ (by omega), li_8, nI_add, if_pos (inb_nI (by omega) (by decide)), lt_s0, nI_clamp (by omega), q9, y0, y0', f3, nI_1]
        rfl) (nI 0) (nI 0) g0 ⟨⟨rfl, rfl⟩, fun i hi => absurd hi (Nat.not_lt_zero _), Same.rf, rfl⟩ (by omega)
    obtain ⟨a1, a2, a3⟩ := acr_b hS b (σ 437) (Nat.le_refl _)
    generalize (acr σ nm b (σ 437)).2 = L at *
    have L144 : L.length ≤ 144 := by omega
    have M3 := M2.scr r2 (by decide)
    obtain ⟨k2, ek2⟩ : ∃ k2 : Hp → Option (Int64 × Hp), k2 = fun h46 => if inb (nI L.length) 145 = true then some (h46.2.1 170 ((nI L.length).toNatClampNeg), h46) else none := ⟨_, rfl⟩
    obtain ⟨g2, f3, v1, v2, v3⟩ := loop2f (F := F_X13_letters_155 (nI L.length) k2) (k := k2) 1 (L.length + 1) (by omega) (fun i q => Same [170] g1 q ∧ q.1 = g1.1 ∧ ∀ k, k < i → q.2.1 170 k = lN (Wy σ nm L k)) (fun self q _ => by
        unfold F_X13_letters_155
        rw [if_pos (nI_lt (by omega) (by omega))]) (fun self to q ht1 ht2 ⟨y1, y2, y3⟩ => by
        obtain ⟨n, rfl⟩ : ∃ n, to = n + 1 := ⟨to - 1, by omega⟩
        have N1 := M3.scr y1 (by decide)
        obtain ⟨kk, ekk⟩ : ∃ kk : Hp → Option (Int64 × Hp), kk = fun h40 => B_X13_letters_280 (nI L.length) k2 self (nI (n + 1)) h40 := ⟨_, rfl⟩
        obtain ⟨q2, f4, z1, z2, z3, z4⟩ := m_split (h := sL q 170 (n + 1) 0) (n := n) (L := L) (x3 := nI L.length) H (fun k hk => N1.2.1 k hk) (fun w hw => by rw [sL_ne1 (by decide)]; exact N1.2.2.1 w hw) (by omega) L144 a3 (by show lsL (q.1 169) L; rw [y2]; exact r1) (fun k hk => by rw [sL_nk1 (by omega)]; exact y3 k (by omega)) (by rw [sL_s]; rfl) kk
        obtain ⟨T, eT⟩ : ∃ T, T = sm (fun w => if mtB (nm w) L (n + 1) = true then Wy σ nm L (n + 1 - (nm w).length) else 0) (σ 2) := ⟨_, rfl⟩
        rw [← eT] at z4
        have TL : T ≤ 8 * mxW := by
          rw [eT]
          refine Nat.le_trans (sm_le (M := mxW) _ (fun w hw => ?_)) (Nat.mul_le_mul_right _ h8)
          show (if mtB (nm w) L (n + 1) = true then Wy σ nm L (n + 1 - (nm w).length) else 0) ≤ mxW
          cases mtB (nm w) L (n + 1)
          · exact Nat.zero_le _
          · exact W_le H L _
        have mx : mxW = 1000000000000000 := rfl
        refine ⟨sL q2 170 (n + 1) (lN (min mxW T)), ?_, y1.tr ((Same.ofL (by decide)).tr (z1.tr (Same.ofL (by decide)))), by show q2.1 = g1.1; rw [z2]; exact y2, fun k hk => ?_⟩
        · unfold F_X13_letters_155
          rw [if_neg (nI_nlt (by omega) (by omega)), if_pos (inb_nI (by omega) (by decide)), lt_s0, nI_clamp (by omega), ← ekk, f4, ekk]
          show B_X13_letters_280 (nI L.length) k2 self (nI (n + 1)) q2 = _
          have b313 : ∀ v, B_X13_letters_313 (nI L.length) k2 self (nI (n + 1)) v (nI (n + 1)) q2 = self (nI (n + 1 + 1)) (sL q2 170 (n + 1) v) := fun v => by
            unfold B_X13_letters_313
            rw [if_pos (inb_nI (by omega) (by decide)), lt_s0, nI_clamp (by omega), nI_1]
          unfold B_X13_letters_280
          rw [if_pos (inb_nI (by omega) (by decide)), if_pos (inb_nI (by omega) (by decide)), nI_clamp (by omega), z4, b313, b313, li_0, show (1000000000000000 : Int64) = lN mxW from rfl]
          simp only [lcLE]
          by_cases h1 : T ≤ mxW
          · rw [if_pos ((pk_lLE (by omega) (by omega)).mpr h1), Nat.min_eq_right h1]
          · rw [if_neg (fun z => h1 ((pk_lLE (by omega) (by omega)).mp z)), Nat.min_eq_left (by omega)]
        · by_cases hk2 : k = n + 1
          · rw [hk2, sL_s, W_s H, ← eT]
          · rw [sL_nk1 hk2]
            exact z3 k (by omega)) (sL g1 170 0 1) ⟨Same.ofL (by decide), rfl, fun k hk => by
        rw [show k = 0 by omega, sL_s, W_0]; rfl⟩ (by omega)
    have M4 := M3.scr v1 (by decide)
    refine ⟨lN (Wy σ nm L L.length), g, g2, ?_, ?_, tp, σ, nm, K, fd, fl, tn, hA, C1.lo hA (L0.tr ((r2.lo (by decide)).tr (v1.lo (by decide)))), M4⟩
    · unfold f_X12_letters
      rw [c1, bndS, if_neg (by decide), f1, bndS]
    · unfold f_X13_letters
      have e0 : sI (sI (sI g 155 0 0) 155 25 ((sI g 155 0 0).1 157 ((3 : Int32).toNatClampNeg))) 155 26 ((sI (sI g 155 0 0) 155 25 ((sI g 155 0 0).1 157 ((3 : Int32).toNatClampNeg))).1 157 ((4 : Int32).toNatClampNeg)) = g0 := by
        rw [eg0, li_3, li_4, clp (by omega), clp (by omega), M1.2.1 3 (by omega), sI_ne1 (show (157 : Nat) ≠ 155 by decide), M1.2.1 4 (by omega)]
      rw [lt_s0, m_begT (M1.2.1 3 (by omega)) (by omega) hb, bndS, if_neg (by decide), lt_s0, lt_s0, e0, ← ek1, li_0, f2, r0.2, ek1]
      show lt (sL g1 170 0 1) _ = _
      rw [lt_s0, ← ek2, li_1, f3, ek2]
      show (if _ then _ else _) = _
      rw [if_pos (inb_nI (by omega) (by decide)), nI_clamp (by omega), v3 _ (by omega)]
  · have M1 := hM.keep (th_Eq 0)
    refine ⟨-1, h, sI h 155 0 0, ?_, ?_, tp, σ, nm, K, fd, fl, tn, hA, hC.lo hA (th_Lo 0), M1⟩
    · unfold f_X12_letters
      rw [c1, bndS, if_pos (by decide)]
    · unfold f_X13_letters
      rw [lt_s0, m_begF (M1.2.1 3 (by omega)) (by omega) hb, bndS, if_pos (by decide)]
end TD
