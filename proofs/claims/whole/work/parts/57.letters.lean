section TC
variable {tp : List Nat} {σ τ : Nat → Nat} {nm nm2 : Nat → List Nat} {K : Im} {fd : List Nat} {fl : Nat} {tn : Option Tn} {h h' : Hp}
/-! LETTERS of LEFT -/
def lst (st : Nat → Bool) (q : Nat × List Nat) (x : Nat) : Nat × List Nat := (q.1 + 1, if st (q.1 + 1) = true then q.2 else q.2 ++ [x])
def lfo (st : Nat → Bool) (q : Nat × List Nat) (l : List Nat) : Nat × List Nat := l.foldl (lst st) q
theorem lfo_snoc (st : Nat → Bool) (q : Nat × List Nat) (l : List Nat) (x : Nat) : lfo st q (l ++ [x]) = lst st (lfo st q l) x := by
  unfold lfo
  rw [List.foldl_append, List.foldl_cons, List.foldl_nil]
theorem lfo_b (st : Nat → Bool) (q : Nat × List Nat) : ∀ l, (lfo st q l).1 = q.1 + l.length ∧ (lfo st q l).2.length ≤ q.2.length + l.length ∧ ∀ P : Nat → Prop, (∀ x ∈ q.2, P x) → (∀ x ∈ l, P x) → ∀ x ∈ (lfo st q l).2, P x := by
  refine snoc_ind ⟨rfl, Nat.le_refl _, fun P h1 _ => h1⟩ ?_
  intro l x ⟨a, b, c⟩
  rw [lfo_snoc]
  unfold lst
  refine ⟨?_, ?_, fun P h1 h2 => ?_⟩
  · rw [List.length_append, List.length_singleton]
    show (lfo st q l).1 + 1 = _
    omega
  · rw [List.length_append, List.length_singleton]
    show (if st ((lfo st q l).1 + 1) = true then (lfo st q l).2 else (lfo st q l).2 ++ [x]).length ≤ _
    by_cases h1 : st ((lfo st q l).1 + 1) = true
    · rw [if_pos h1]; omega
    · rw [if_neg h1, List.length_append, List.length_singleton]; omega
  · show ∀ y ∈ (if st ((lfo st q l).1 + 1) = true then (lfo st q l).2 else (lfo st q l).2 ++ [x]), P y
    have c' := c P h1 (fun y hy => h2 y (by simp [hy]))
    by_cases h3 : st ((lfo st q l).1 + 1) = true
    · rw [if_pos h3]; exact c'
    · rw [if_neg h3]
      intro y hy
      rcases List.mem_append.mp hy with z | z
      · exact c' y z
      · rw [List.mem_singleton.mp z]; exact h2 x (by simp)
theorem take_one {l : List Nat} {i : Nat} (hi : i < l.length) : l.take (i + 1) = l.take i ++ [l.getD i 0] := by
  rw [List.take_succ_eq_append_getElem hi, getD_el hi]
theorem c_strikeL {b : Nat} {l : List Nat} {q : Nat × List Nat} {x5 : Int32} (T : TgRep h 7 σ nm) (H : TgOk σ nm) (ok : okNm l) (hb : b < 1000) (q1 : q.1 ≤ 138) (q2 : q.2.length ≤ q.1) (h6 : h.1 113 6 = nI q.2.length) (hr : lsI (h.1 120) q.2) (kk : Int32 → Hp → Option Hp) : ∃ h', itr3 (F_X3_strikeLetters_40 7 18 (nI b) x5 (nI (nmC l)) kk) N0 (nI q.1) 5 h = kk (nI (lfo (stk (σ 3) (σ 4) b) q l).1) h' ∧ h'.1 113 6 = nI (lfo (stk (σ 3) (σ 4) b) q l).2.length ∧ lsI (h'.1 120) (lfo (stk (σ 3) (σ 4) b) q l).2 ∧ Same [113, 120] h h' := by
  have okl := ok.2.1
  obtain ⟨-, -, -, e3, e3', e4, e4'⟩ := H.1
  obtain ⟨a, g, e, p0, p1, p2, p3⟩ := loopDn3 (F := F_X3_strikeLetters_40 7 18 (nI b) x5 (nI (nmC l)) kk) (k := kk) 6 (fun i a g => a = nI (lfo (stk (σ 3) (σ 4) b) q (l.take (l.length - i))).1 ∧ g.1 113 6 = nI (lfo (stk (σ 3) (σ 4) b) q (l.take (l.length - i))).2.length ∧ lsI (g.1 120) (lfo (stk (σ 3) (σ 4) b) q (l.take (l.length - i))).2 ∧ Same [113, 120] h g) (fun self a g _ => by
      unfold F_X3_strikeLetters_40
      rw [if_pos (by decide)]) (fun self i a g hi ⟨y0, y1, y2, y3⟩ => by
      have cl := c_letter (h := g) (i := i) ok hi
      have lp := ll_pos ok (i := i)
      unfold F_X3_strikeLetters_40
      rw [if_neg (nI_pos (by omega)), cl, bndS]
      by_cases h1 : i < l.length
      · obtain ⟨b1, b2, -⟩ := lfo_b (stk (σ 3) (σ 4) b) q (l.take (l.length - (i + 1)))
        rw [List.length_take] at b1 b2
        have tk : l.take (l.length - i) = l.take (l.length - (i + 1)) ++ [ll l i] := by
          rw [show l.length - i = l.length - (i + 1) + 1 by omega, take_one (by omega)]
          unfold ll
          rw [if_pos h1, show l.length - (i + 1) = l.length - 1 - i by omega]
        have l0 : ¬ ll l i = 0 := by rw [lp]; exact fun z => z h1
        have l32 := ll_lt ok.lt i
        have c1 := c_strikes (h := g) (x0 := 7 + 2) (b := b) (p := (lfo (stk (σ 3) (σ 4) b) q (l.take (l.length - (i + 1)))).1 + 1) (e := σ 3) (r := σ 4) (by rw [(y3 9 (by decide)).1]; exact T.1.2.2.2.1) (by rw [(y3 9 (by decide)).1]; exact T.1.2.2.2.2) (by omega) (by omega) (by omega) hb (by omega)
        have n0 : ¬ nI (ll l i) = 0 := fun z => l0 ((nI_eq (b := 0) (by omega) (by omega)).mp z)
        rw [if_neg n0]
        unfold B_X3_strikeLetters_66
        rw [lt_s0, if_neg n0, y0, nI_1, c1, bndS, tk, lfo_snoc]
        generalize hq : lfo (stk (σ 3) (σ 4) b) q (l.take (l.length - (i + 1))) = w at *
        cases hs : stk (σ 3) (σ 4) b (w.1 + 1)
        · refine ⟨nI (w.1 + 1), sI (sI g 120 w.2.length (nI (ll l i))) 113 6 (nI (w.2.length + 1)), ?_, ?_, ?_, ?_, y3.tr ((Same.ofI (by decide)).tr (Same.ofI (by decide)))⟩
          · show (if (nI 0 : Int32) = 0 then _ else _) = _
            rw [if_pos (by decide), y1, if_pos (inb_nI (by omega) (by decide)), lt_s0, nI_clamp (by omega), lt_s0, sI_ne1 (by decide), y1, nI_1]
          · rfl
          · unfold lst
            rw [hs, sI_s]
            simp
          · unfold lst
            rw [hs]
            simp only [Bool.false_eq_true, ↓reduceIte]
            have := lsI.put (w := ll l i) y2
            intro j hj
            rw [sI_ne1 (by decide)]
            exact this j hj
        · refine ⟨nI (w.1 + 1), g, ?_, ?_, ?_, ?_, y3⟩
          · show (if (nI 1 : Int32) = 0 then _ else _) = _
            rw [if_neg (by decide)]
          · rfl
          · unfold lst
            rw [hs]
            simpa using y1
          · unfold lst
            rw [hs]
            simpa using y2
      · have tk : l.take (l.length - i) = l.take (l.length - (i + 1)) := by rw [show l.length - i = l.length - (i + 1) by omega]
        have l0 : ll l i = 0 := by rw [lp]; exact h1
        refine ⟨a, g, ?_, by rw [tk]; exact y0, by rw [tk]; exact y1, by rw [tk]; exact y2, y3⟩
        rw [l0, if_pos (by decide)]
        unfold B_X3_strikeLetters_66
        rw [lt_s0, if_pos (by decide), show a + 0 = a from Int32.add_zero a]) (nI q.1) h ⟨by rw [show l.length - 6 = 0 by omega]; rfl, by rw [show l.length - 6 = 0 by omega]; exact h6, by rw [show l.length - 6 = 0 by omega]; exact hr, Same.rf⟩ (by omega)
  have e' : itr3 (F_X3_strikeLetters_40 7 18 (nI b) x5 (nI (nmC l)) kk) N0 (nI q.1) 5 h = kk a g := e
  rw [Nat.sub_zero, List.take_length] at p0 p1 p2
  exact ⟨g, by rw [e', p0], p1, p2, p3⟩
/-- all letters of the first i SAYINGS of the TEXT -/
def acr (σ : Nat → Nat) (nm : Nat → List Nat) (b : Nat) : Nat → Nat × List Nat
  | 0 => (0, [])
  | i + 1 => lfo (stk (σ 3) (σ 4) b) (acr σ nm b i) (nm (σ (438 + i)))
theorem acr_b (hS : SgOk σ nm) (b : Nat) : ∀ i, i ≤ σ 437 → (acr σ nm b i).1 ≤ 6 * i ∧ (acr σ nm b i).2.length ≤ (acr σ nm b i).1 ∧ ∀ x ∈ (acr σ nm b i).2, x < 32
  | 0, _ => ⟨Nat.le_refl _, Nat.le_refl _, fun x hx => by cases hx⟩
  | i + 1, hi => by
    obtain ⟨a1, a2, a3⟩ := acr_b hS b i (by omega)
    have w := hS.2.1.2 i (by omega)
    rw [show 437 + 1 + i = 438 + i by omega] at w
    have ok := (hS.1.2.2.2.1 _ w).2.2.2.2
    obtain ⟨b1, b2, b3⟩ := lfo_b (stk (σ 3) (σ 4) b) (acr σ nm b i) (nm (σ (438 + i)))
    have := ok.2.1
    refine ⟨?_, ?_, ?_⟩
    · show (lfo _ _ _).1 ≤ _
      omega
    · show (lfo _ _ _).2.length ≤ (lfo _ _ _).1
      omega
    · exact b3 (fun x => x < 32) a3 ok.lt
theorem c_strikeLetters {b : Nat} (hA : AbOk tp σ nm K fd fl tn) (hC : CR tp σ nm K fd fl tn h) (hb : b < 1000) : ∃ h', f_X3_strikeLetters 7 18 (nI b) h = some h' ∧ h'.1 113 6 = nI (acr σ nm b (σ 437)).2.length ∧ lsI (h'.1 120) (acr σ nm b (σ 437)).2 ∧ Same [113, 120] h h' := by
  have hS := hA.2.1
  have n24 := hS.2.1.1
  have h8 := hS.1.1.2.2.1
  have c18 : h.1 18 1 = nI (σ 437) := hC.2.1.2.1.1
  have c19 := hC.2.1.2.1.2
  obtain ⟨a, g, e, -, p1, p2, p3⟩ := loop3n (F := F_X3_strikeLetters_11 7 18 (nI b) (fun h20 => some h20)) (k := fun _ h20 => some h20) (σ 437) (fun i a g => a = nI (acr σ nm b i).1 ∧ g.1 113 6 = nI (acr σ nm b i).2.length ∧ lsI (g.1 120) (acr σ nm b i).2 ∧ Same [113, 120] h g) (fun self a g ⟨_, _, _, y3⟩ => by
      unfold F_X3_strikeLetters_11
      rw [(y3 18 (by decide)).1, c18, if_pos (nI_le (Nat.le_refl _) (by omega))]) (fun self i a g hi ⟨y0, y1, y2, y3⟩ => by
      have w := hS.2.1.2 i hi
      rw [show 437 + 1 + i = 438 + i by omega] at w
      have ok := (hS.1.2.2.2.1 _ w).2.2.2.2
      obtain ⟨a1, a2, -⟩ := acr_b hS b i (by omega)
      have Tg : TgRep g 7 σ nm := hC.2.1.1.kept (fun q z1 z2 => ⟨(y3 q (by simp; omega)).1, (y3 q (by simp; omega)).2.1⟩)
      obtain ⟨g2, f2, r1, r2, r3⟩ := c_strikeL (h := g) (b := b) (x5 := nI i) (q := acr σ nm b i) Tg hS.1 ok hb (by omega) a2 y1 y2 (fun v19 h18 => self v19 (nI i + 1) h18)
      refine ⟨nI (acr σ nm b (i + 1)).1, g2, ?_, rfl, r1, r2, y3.tr r3⟩
      have g19 : g.1 19 i = nI (σ (438 + i)) := by rw [(y3 19 (by decide)).1]; exact c19 i hi
      have g8 : g.1 8 (8 + σ (438 + i)) = nI (nmC (nm (σ (438 + i)))) := Tg.2.1 _ w
      unfold F_X3_strikeLetters_11
      rw [(y3 18 (by decide)).1, c18, if_neg (nI_ge hi (by omega)), if_pos (show inb (nI i) (aln (18 + 1)) = true from inb_nI (show i < 24 by omega) (by decide)), nI_clamp (by omega)]
      show (if inb (8 + g.1 19 i) 16 = true then _ else _) = _
      rw [g19, li_8, nI_add, if_pos (inb_nI (by omega) (by decide)), lt_s0, nI_clamp (by omega)]
      show itr3 (F_X3_strikeLetters_40 7 18 (nI b) (nI i) (g.1 8 (8 + σ (438 + i))) _) N0 a 5 g = _
      rw [g8, y0, f2, nI_1]
      rfl) (nI 0) (sI h 113 6 (nI 0)) ⟨rfl, sI_s, fun i hi => absurd hi (Nat.not_lt_zero _), Same.ofI (by decide)⟩ (by omega)
  refine ⟨g, ?_, p1, p2, p3⟩
  unfold f_X3_strikeLetters
  rw [lt_s0, li_0, e]
/-! in how many ways -/
/-- the letters of L just ahead of a place -/
def sub (L : List Nat) (to j : Nat) : List Nat := (L.take to).drop (to - j)
theorem sub_len {L : List Nat} {to j : Nat} (h1 : to ≤ L.length) (h2 : j ≤ to) : (sub L to j).length = j := by
  unfold sub
  rw [List.length_drop, List.length_take]
  omega
theorem sub_s {L : List Nat} {to j : Nat} (h1 : to ≤ L.length) (h2 : j < to) : sub L to (j + 1) = L.getD (to - 1 - j) 0 :: sub L to j := by
  unfold sub
  have a : to - (j + 1) < (L.take to).length := by rw [List.length_take]; omega
  rw [drop_at a, show to - (j + 1) + 1 = to - j by omega]
  congr 1
  rw [getD_el a, getD_el (show to - 1 - j < L.length by omega), List.getElem_take]
  congr 1
  omega
theorem sub_ll {L : List Nat} {to m i : Nat} (h1 : to ≤ L.length) (h2 : m ≤ to) (h3 : i < m) : ll (sub L to m) i = L.getD (to - 1 - i) 0 := by
  unfold ll
  rw [sub_len h1 h2, if_pos h3]
  have a : m - 1 - i < ((L.take to).drop (to - m)).length := by rw [List.length_drop, List.length_take]; omega
  show ((L.take to).drop (to - m)).getD (m - 1 - i) 0 = _
  rw [getD_el a, getD_el (show to - 1 - i < L.length by omega), List.getElem_drop, List.getElem_take]
  congr 1
  omega
theorem sub_mem {L : List Nat} {to j : Nat} {P : Nat → Prop} (hl : ∀ x ∈ L, P x) : ∀ x ∈ sub L to j, P x := fun x hx => hl x (List.mem_of_mem_take (List.mem_of_mem_drop hx))
def mtB (l L : List Nat) (to : Nat) : Bool := decide (l.length ≤ to ∧ l = sub L to l.length)
theorem mtB_all {l L : List Nat} {to : Nat} (h1 : to ≤ L.length) : allP (fun i => decide (i < to ∧ L.getD (to - 1 - i) 0 = ll l i)) 0 l.length = mtB l L to := by
  rw [Bool.eq_iff_iff, allP_t]
  unfold mtB
  rw [decide_eq_true_eq]
  constructor
  · intro z
    have le : l.length ≤ to := by
      apply Classical.byContradiction
      intro y
      have := of_decide_eq_true (z to (by omega))
      omega
    refine ⟨le, ll_ext (by rw [sub_len h1 le]) (fun i hi => ?_)⟩
    have := (of_decide_eq_true (z i hi)).2
    rw [Nat.zero_add] at this
    rw [sub_ll h1 le hi, this]
  · intro ⟨z1, z2⟩ i hi
    apply decide_eq_true
    rw [Nat.zero_add]
    refine ⟨by omega, ?_⟩
    have := sub_ll h1 z1 hi
    rw [← this, ← z2]
theorem subM {a b : Nat} (h : a ≤ b) : nI a - nI b = mI (b - a) := by
  unfold mI
  rw [← pk_sub h, Int32.neg_sub]
theorem c_lettersBefore {l L : List Nat} {to : Nat} (ok : okNm l) (h0 : 1 ≤ to) (h1 : to ≤ L.length) (hL : L.length ≤ 144) (hm : ∀ x ∈ L, x < 32) (hr : lsI (h.1 120) L) : f_X3_lettersBefore (nI to) (nI (nmC l)) h = some (nI (if mtB l L to = true then l.length else 0), h) := by
  have okl := ok.2.1
  unfold f_X3_lettersBefore
  rw [li_0]
  have al := allLoop (h := h) (F := F_X3_lettersBefore_2 (nI to) (nI (nmC l)) (fun h11 => some (nI 0, h11)) (fun v13 h12 => some (v13, h12))) (k0 := some (nI 0, h)) (k1 := some (nI l.length, h)) (fun i => decide (i < to ∧ L.getD (to - 1 - i) 0 = ll l i)) 0 l.length (fun self => by
      rw [Nat.zero_add]
      unfold F_X3_lettersBefore_2
      by_cases h2 : l.length = 6
      · rw [if_pos (show (6 : Int32) ≤ nI l.length from nI_le (a := 6) (by omega) (by omega))]
      · have l0 : ll l l.length = 0 := by rw [ll_pos ok]; omega
        rw [if_neg (show ¬ (6 : Int32) ≤ nI l.length from nI_ge (b := 6) (by omega) (by omega)), c_letter ok (by omega), bndS, l0, if_pos (by decide)]) (fun self i hi => by
      have l0 : ¬ ll l i = 0 := by rw [ll_pos ok]; omega
      have l32 := ll_lt ok.lt i
      rw [Nat.zero_add]
      unfold F_X3_lettersBefore_2
      rw [if_neg (show ¬ (6 : Int32) ≤ nI i from nI_ge (b := 6) (by omega) (by omega)), c_letter ok (by omega), bndS, if_neg (show ¬ nI (ll l i) = 0 from fun z => l0 ((nI_eq (b := 0) (by omega) (by omega)).mp z)), lt_s0, li_1, subN h0]
      by_cases h2 : i < to
      · have x32 := getD_P (P := fun x => x < 32) (show to - 1 - i < L.length by omega) hm
        rw [subN (by omega), if_neg (nI_pos (by omega)), if_pos (inb_nI (by omega) (by decide)), c_letter ok (by omega), bndS, nI_clamp (by omega), hr _ (by omega), nI_add]
        by_cases h3 : L.getD (to - 1 - i) 0 = ll l i
        · rw [if_pos (by rw [h3]), if_pos (decide_eq_true ⟨h2, h3⟩)]
        · rw [if_neg (fun z => h3 ((nI_eq (by omega) (by omega)).mp z)), if_neg (fun z => h3 (of_decide_eq_true z).2)]
      · rw [subM (by omega), if_pos (by rw [li_0, ltMT (by omega) (by omega) (by omega)]; trivial), if_neg (fun z => h2 (of_decide_eq_true z).1)]) (by omega)
  rw [al, mtB_all h1]
  cases mtB l L to
  · rfl
  · rfl
def mxW : Nat := 1000000000000000
def ww (σ : Nat → Nat) (nm : Nat → List Nat) (L : List Nat) : Nat → Nat → Nat
  | 0 => fun k => if k = 0 then 1 else 0
  | n + 1 => fun k => if k = n + 1 then min mxW (sm (fun w => if mtB (nm w) L (n + 1) = true then ww σ nm L n (n + 1 - (nm w).length) else 0) (σ 2)) else ww σ nm L n k
theorem ww_st {L : List Nat} {k : Nat} : ∀ n, k ≤ n → ww σ nm L n k = ww σ nm L k k
  | 0, h1 => by rw [show k = 0 by omega]
  | n + 1, h1 => by
    by_cases h2 : k = n + 1
    · rw [h2]
    · show (if k = n + 1 then _ else ww σ nm L n k) = _
      rw [if_neg h2]
      exact ww_st n (by omega)
def Wy (σ : Nat → Nat) (nm : Nat → List Nat) (L : List Nat) (k : Nat) : Nat := ww σ nm L k k
theorem W_0 (L : List Nat) : Wy σ nm L 0 = 1 := rfl
theorem W_s (H : TgOk σ nm) (L : List Nat) (n : Nat) : Wy σ nm L (n + 1) = min mxW (sm (fun w => if mtB (nm w) L (n + 1) = true then Wy σ nm L (n + 1 - (nm w).length) else 0) (σ 2)) := by
  show (if n + 1 = n + 1 then _ else _) = _
  rw [if_pos rfl]
  congr 1
  refine sm_cong _ (fun w hw => ?_)
  have ok := (H.2.2.2.1 w hw).2.2.2.2
  have := ok.1
  rw [ww_st (L := L) n (show n + 1 - (nm w).length ≤ n by omega)]
  rfl
theorem W_le (H : TgOk σ nm) (L : List Nat) : ∀ k, Wy σ nm L k ≤ mxW
  | 0 => by rw [W_0]; decide
  | k + 1 => by rw [W_s H]; exact Nat.min_le_left _ _
theorem minW {a b : Nat} : min mxW (min mxW a + b) = min mxW (a + b) := by omega
theorem jminLN {a : Nat} (ha : a < 9223372036854775808) : jminL 1000000000000000 (lN a) = lN (min mxW a) := by
  have e : (1000000000000000 : Int64) = lN mxW := rfl
  show (if lN a < 1000000000000000 then lN a else 1000000000000000) = _
  rw [e]
  have m : mxW < 9223372036854775808 := by decide
  by_cases h1 : a < mxW
  · rw [if_pos ((pk_lLT ha m).mpr h1), Nat.min_eq_right (by omega)]
  · rw [if_neg (fun z => h1 ((pk_lLT ha m).mp z)), Nat.min_eq_left (by omega)]
theorem c_waysOfLetters {b : Nat} (hA : AbOk tp σ nm K fd fl tn) (hC : CR tp σ nm K fd fl tn h) (hb : b < 1000) : ∃ h', f_X3_waysOfLetters 7 18 (nI b) h = some (lN (Wy σ nm (acr σ nm b (σ 437)).2 (acr σ nm b (σ 437)).2.length), h') ∧ Same [113, 120, 121] h h' := by
  have hS := hA.2.1
  have H := hS.1
  have n24 := hS.2.1.1
  have h8 := H.1.2.2.1
  obtain ⟨a1, a2, a3⟩ := acr_b hS b (σ 437) (Nat.le_refl _)
  obtain ⟨h1, f1, r1, r2, r3⟩ := c_strikeLetters hA hC hb
  generalize (acr σ nm b (σ 437)).2 = L at *
  have L144 : L.length ≤ 144 := by omega
  obtain ⟨k1, ek1⟩ : ∃ k1 : Hp → Option (Int64 × Hp), k1 = fun h17 => if inb (h17.1 113 6) 145 = true then some (h17.2.1 121 ((h17.1 113 6).toNatClampNeg), h17) else none := ⟨_, rfl⟩
  obtain ⟨g, e, p1, p2, p3⟩ := loop2f (F := F_X3_waysOfLetters_17 7 k1) (k := k1) 1 (L.length + 1) (by omega) (fun i g => Same [121] h1 g ∧ g.1 = h1.1 ∧ ∀ k, k < i → g.2.1 121 k = lN (Wy σ nm L k)) (fun self g ⟨y1, y2, y3⟩ => by
      unfold F_X3_waysOfLetters_17
      rw [y2, r1, if_pos (nI_lt (by omega) (by omega))]) (fun self to g ht1 ht2 ⟨y1, y2, y3⟩ => by
      obtain ⟨n, rfl⟩ : ∃ n, to = n + 1 := ⟨to - 1, by omega⟩
      obtain ⟨g2, f2, s1, s2, s3⟩ := loop2n (F := F_X3_waysOfLetters_37 7 (nI (n + 1)) (fun h16 => self (nI (n + 1) + 1) h16)) (k := fun h16 => self (nI (n + 1) + 1) h16) (σ 2) (fun w q => Same [121] h1 q ∧ q.1 = h1.1 ∧ (∀ k, k < n + 1 → q.2.1 121 k = lN (Wy σ nm L k)) ∧ q.2.1 121 (n + 1) = lN (min mxW (sm (fun w => if mtB (nm w) L (n + 1) = true then Wy σ nm L (n + 1 - (nm w).length) else 0) w))) (fun self q ⟨z1, z2, _⟩ => by
          unfold F_X3_waysOfLetters_37
          rw [z2, (r3 7 (by decide)).1, hC.2.1.1.1.2.2.1, if_pos (nI_le (Nat.le_refl _) (by omega))]) (fun self w q hw ⟨z1, z2, z3, z4⟩ => by
          have ok := (H.2.2.2.1 w hw).2.2.2.2
          have ok1 := ok.1
          have cb := c_lettersBefore (h := q) (l := nm w) (L := L) (to := n + 1) ok (by omega) (by omega) L144 a3 (by rw [z2]; exact r2)
          have q8 : q.1 8 (8 + w) = nI (nmC (nm w)) := by rw [z2, (r3 8 (by decide)).1]; exact hC.2.1.1.2.1 w hw
          have hsum : sm (fun w => if mtB (nm w) L (n + 1) = true then Wy σ nm L (n + 1 - (nm w).length) else 0) (w + 1) = sm (fun w => if mtB (nm w) L (n + 1) = true then Wy σ nm L (n + 1 - (nm w).length) else 0) w + (if mtB (nm w) L (n + 1) = true then Wy σ nm L (n + 1 - (nm w).length) else 0) := rfl
          cases hm : mtB (nm w) L (n + 1)
          · refine ⟨q, ?_, z1, z2, z3, by rw [hsum, hm]; exact z4⟩
            unfold F_X3_waysOfLetters_37
            rw [z2, (r3 7 (by decide)).1, hC.2.1.1.1.2.2.1, if_neg (nI_ge hw (by omega)), li_8, nI_add, if_pos (inb_nI (by omega) (by decide)), nI_clamp (by omega)]
            rw [z2] at q8
            show bnd (f_X3_lettersBefore _ (h1.1 8 (8 + w)) q) _ = _
            rw [q8, cb, bndS, hm]
            show lt (nI (n + 1) - nI 0) _ = _
            rw [lt_s0, subN (by omega), if_pos (nI_le (by omega) (by omega)), nI_1]
          · have le : (nm w).length ≤ n + 1 := by
              unfold mtB at hm
              exact (of_decide_eq_true hm).1
            have wl1 := W_le H L (n + 1 - (nm w).length)
            have wl2 := Nat.min_le_left mxW (sm (fun w => if mtB (nm w) L (n + 1) = true then Wy σ nm L (n + 1 - (nm w).length) else 0) w)
            have mx : mxW = 1000000000000000 := rfl
            refine ⟨sL q 121 (n + 1) (lN (min mxW (sm (fun w => if mtB (nm w) L (n + 1) = true then Wy σ nm L (n + 1 - (nm w).length) else 0) (w + 1)))), ?_, z1.tr (Same.ofL (by decide)), z2, fun k hk => by rw [sL_nk1 (by omega)]; exact z3 k hk, sL_s⟩
            unfold F_X3_waysOfLetters_37
            rw [z2, (r3 7 (by decide)).1, hC.2.1.1.1.2.2.1, if_neg (nI_ge hw (by omega)), li_8, nI_add, if_pos (inb_nI (by omega) (by decide)), nI_clamp (by omega)]
            rw [z2] at q8
            show bnd (f_X3_lettersBefore _ (h1.1 8 (8 + w)) q) _ = _
            rw [q8, cb, bndS, hm]
            show lt (nI (n + 1) - nI (nm w).length) _ = _
            rw [lt_s0, subN le, if_neg (nI_ge (by omega) (by omega)), if_pos (inb_nI (by omega) (by decide)), if_pos (inb_nI (by omega) (by decide)), if_pos (inb_nI (by omega) (by decide)), lt_s0, nI_clamp (by omega), nI_clamp (by omega), z4, z3 _ (by omega), lN_add, jminLN (by omega), minW, hsum, hm, nI_1]
            rfl) (sL g 121 (n + 1) 0) ⟨y1.tr (Same.ofL (by decide)), y2, fun k hk => by rw [sL_nk1 (by omega)]; exact y3 k hk, by rw [sL_s]; rfl⟩ (by omega)
      refine ⟨g2, ?_, s1, s2, fun k hk => ?_⟩
      · unfold F_X3_waysOfLetters_17
        rw [y2, r1, if_neg (nI_nlt (by omega) (by omega)), if_pos (inb_nI (by omega) (by decide)), lt_s0, nI_clamp (by omega), li_0, f2, nI_1]
      · by_cases hk2 : k = n + 1
        · rw [hk2, s3.2, W_s H]
        · exact s3.1 k (by omega)) (sL h1 121 0 1) ⟨Same.ofL (by decide), rfl, fun k hk => by
        rw [show k = 0 by omega, sL_s, W_0]; rfl⟩ (by omega)
  refine ⟨g, ?_, (r3.mono (fun q hq => by simp only [List.mem_cons, List.not_mem_nil, or_false] at hq ⊢; omega)).tr (p1.mono (fun q hq => by simp only [List.mem_cons, List.not_mem_nil, or_false] at hq ⊢; omega))⟩
  unfold f_X3_waysOfLetters
  rw [f1, bnvS, lt_s0, ← ek1, li_1]
  show itr2 (F_X3_waysOfLetters_17 7 k1) N0 (nI 1) (sL h1 121 0 1) = _
  rw [e, ek1]
  show (if inb (g.1 113 6) 145 = true then _ else _) = _
  rw [p2, r1, if_pos (inb_nI (by omega) (by decide)), nI_clamp (by omega), p3 _ (by omega)]
end TC
