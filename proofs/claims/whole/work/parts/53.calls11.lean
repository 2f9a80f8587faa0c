section T8
variable {tp : List Nat} {σ τ : Nat → Nat} {nm : Nat → List Nat} {K : Im} {fd : List Nat} {fl : Nat} {tn : Option Tn} {h h' : Hp}
theorem fi_pos {p : Nat → Bool} {n : Nat} (hn : n ≤ 1000) : (fi p n < 0) = ¬ ∃ k, k < n ∧ p k = true := by
  apply propext
  constructor
  · intro z ⟨k, h1, h2⟩
    obtain ⟨a, b, c⟩ := fi_some hn ⟨k, h1, h2⟩
    rw [c] at z
    exact nI_pos (by omega) z
  · intro z
    rw [fi_none (fun k hk => by
      cases hp : p k
      · rfl
      · exact absurd ⟨k, hk, hp⟩ z)]
    decide
theorem gop_s0 (H : TgOk σ nm) {l : List Nat} {i o k : Nat} (hw : l.getD i 0 < 8) (h1 : σ 0 ≤ k) (h2 : k < 5) : gop σ l i o k = false := by
  unfold gop
  rw [cnb_s0 H hw h1 h2, Bool.and_false]
theorem gop_fi (H : TgOk σ nm) {l : List Nat} {i o : Nat} (hw : l.getD i 0 < 8) : fi (gop σ l i o) (σ 0) = fi (gop σ l i o) 5 := fi_ext H.1.1 (fun _ h1 h2 => gop_s0 H hw h1 h2)
theorem c_leadsTo {t s i : Nat} {l : List Nat} (T : TgRep h t σ nm) (H : TgOk σ nm) (hs : s < 5) (hi : i < l.length) (hw : l.getD i 0 < 8) : f_X3_leadsTo t (nI s) (nI (bts (cnb σ l i) (σ 0))) h = some (nI (decide (G σ (l.drop i) s ≠ 0)).toNat, h) := by
  unfold f_X3_leadsTo
  rw [c_firstBehind T H (by omega), bndS]
  show (if fi (gop σ l i s) (σ 0) < 0 then _ else _) = _
  rw [gop_fi H hw]
  have e : (fi (gop σ l i s) 5 < 0) = ¬ (G σ (l.drop i) s ≠ 0) := by
    rw [fi_pos (by omega)]
    exact congrArg Not (propext (gop_G H hi hw (by omega)).symm)
  simp only [e]
  by_cases h1 : G σ (l.drop i) s ≠ 0
  · rw [if_neg (fun z => z h1), decide_eq_true h1]
    rfl
  · rw [if_pos h1, decide_eq_false h1]
    rfl
def pth (σ : Nat → Nat) (l : List Nat) : Nat → Nat
  | 0 => 5
  | i + 1 => fst (gop σ l i (pth σ l i)) 5
theorem pth_ok (H : TgOk σ nm) {l : List Nat} (hw : ∀ i, i < l.length → l.getD i 0 < 8) (hG : G σ l 5 ≠ 0) : ∀ i, i ≤ l.length → pth σ l i < 6 ∧ G σ (l.drop i) (pth σ l i) ≠ 0
  | 0, _ => ⟨by show (5 : Nat) < 6; omega, by rw [List.drop_zero]; exact hG⟩
  | i + 1, hi => by
    obtain ⟨a, b⟩ := pth_ok H hw hG i (by omega)
    have ex := (gop_G H (by omega) (hw i (by omega)) a).mp b
    obtain ⟨c, d, -⟩ := fi_some (by omega) ex
    have d' : gop σ l i (pth σ l i) (pth σ l (i + 1)) = true := d
    have c' : pth σ l (i + 1) < 5 := c
    refine ⟨by omega, ?_⟩
    unfold gop cnb at d'
    rw [Bool.and_eq_true, Bool.and_eq_true, decide_eq_true_eq, decide_eq_true_eq, decide_eq_true_eq] at d'
    exact d'.2.2
theorem pth_fi (H : TgOk σ nm) {l : List Nat} (hw : ∀ i, i < l.length → l.getD i 0 < 8) (hG : G σ l 5 ≠ 0) {i : Nat} (hi : i < l.length) : fi (gop σ l i (pth σ l i)) 5 = nI (pth σ l (i + 1)) ∧ pth σ l (i + 1) < 5 := by
  obtain ⟨a, b⟩ := pth_ok H hw hG i (by omega)
  obtain ⟨c, d, e⟩ := fi_some (by omega) ((gop_G H hi (hw i hi) a).mp b)
  exact ⟨e, c⟩
theorem pth_no (H : TgOk σ nm) {l : List Nat} (hw : ∀ i, i < l.length → l.getD i 0 < 8) (hn : 0 < l.length) (hG : ¬ G σ l 5 ≠ 0) : fi (gop σ l 0 5) 5 = -1 := by
  apply fi_none
  intro k hk
  cases hp : gop σ l 0 5 k
  · rfl
  · exfalso
    apply hG
    have := (gop_G H hn (hw 0 hn) (by omega)).mpr ⟨k, hk, hp⟩
    rw [List.drop_zero] at this
    exact this
theorem c_readFirst1 {t r : Nat} {l : List Nat} (T : TgRep h t σ nm) (H : TgOk σ nm) (ht : t < 100) (hr : h.1 r 1 = nI l.length) (hf : lsI (h.1 (r + 1)) l) (hw : ∀ i, i < l.length → l.getD i 0 < 8) (hn : l.length ≤ aln (r + 1)) (hc : aln (r + 1) ≤ 24) (hr2 : r ≠ 118 ∧ r + 1 ≠ 118) (kk : Hp → Option (Int32 × Hp)) : ∃ h', itr3 (F_X3_readFirst_10 t r kk) N0 0 (nI l.length - 1) h = kk h' ∧ Same [118] h h' ∧ h'.2 = h.2 ∧ ∀ j, j < l.length → h'.1 118 j = nI (bts (cnb σ l j) (σ 0)) := by
  have s5 := H.1.1
  obtain ⟨a, g, e, -, p1, p2, p3⟩ := loopDn3 (F := F_X3_readFirst_10 t r kk) (k := fun _ q => kk q) l.length (fun i a g => a = nI (if i < l.length then bts (cnb σ l i) (σ 0) else 0) ∧ Same [118] h g ∧ g.2 = h.2 ∧ ∀ j, i ≤ j → j < l.length → g.1 118 j = nI (bts (cnb σ l j) (σ 0))) (fun self a g _ => by
      unfold F_X3_readFirst_10
      rw [if_pos (by decide)]) (fun self i a g hi ⟨q0, q1, q2, q3⟩ => by
      obtain ⟨kz, ekz⟩ : ∃ kz : Hp → Option (Int32 × Hp), kz = fun h19 => if inb (nI i) 24 = true then lt (h19.1 118 ((nI i).toNatClampNeg)) fun v21 => self v21 (nI i + (-1)) h19 else none := ⟨_, rfl⟩
      obtain ⟨g2, f2, r1, r2, r3, r4⟩ := loop2n (F := F_X3_readFirst_26 t r a (nI i) kz) (k := kz) (σ 0) (fun s q => Same [118] h q ∧ q.2 = h.2 ∧ q.1 118 i = nI (bts (cnb σ l i) s) ∧ ∀ j, j ≠ i → q.1 118 j = g.1 118 j) (fun self q ⟨y1, _⟩ => by
          unfold F_X3_readFirst_26
          rw [(y1 t (by simp; omega)).1, T.1.1, if_pos (nI_le (Nat.le_refl _) (by omega))]) (fun self s q hs ⟨y1, y2, y3, y4⟩ => by
          have Tq : TgRep q t σ nm := T.kept (fun a z1 z2 => ⟨(y1 a (by simp; omega)).1, by rw [y2]⟩)
          have qr : q.1 r 1 = nI l.length := by rw [(y1 r (by simp; exact hr2.1)).1]; exact hr
          have qi : q.1 (r + 1) i = nI (l.getD i 0) := by rw [(y1 (r + 1) (by simp; omega)).1]; exact hf i hi
          have ra := c_readsAs (w := l.getD i 0) (k := s) Tq H (hw i hi) (by omega)
          refine ⟨if cnb σ l i s = true then sI q 118 i (nI (bts (cnb σ l i) (s + 1))) else q, ?_, ?_, ?_, ?_, ?_⟩
          · have b62 : B_X3_readFirst_62 t r a (nI i) kz self (nI s) (nI (decide (G σ (l.drop (i + 1)) s ≠ 0)).toNat) q = self (nI (s + 1)) (if cnb σ l i s = true then sI q 118 i (nI (bts (cnb σ l i) (s + 1))) else q) := by
              unfold B_X3_readFirst_62
              rw [bts_s]
              by_cases h1 : G σ (l.drop (i + 1)) s ≠ 0
              · rw [decide_eq_true h1]
                show (if (nI 1 : Int32) = 0 then _ else _) = _
                rw [if_neg (by decide), if_pos (inb_nI (by omega) (by omega)), nI_clamp (by omega), qi, ra, bndS]
                by_cases h2 : σ (72 + 5 * l.getD i 0 + s) = 1
                · have c1 : cnb σ l i s = true := by
                    unfold cnb
                    rw [decide_eq_true h1, decide_eq_true h2]
                    rfl
                  rw [decide_eq_true h2, c1]
                  show (if (nI 1 : Int32) = 0 then _ else _) = _
                  rw [if_neg (by decide), if_pos (inb_nI (by omega) (by omega)), if_pos (inb_nI (by omega) (by omega)), lt_s0, y3, li_1, shl1 (by omega), fa_or, nI_add]
                  rfl
                · have c1 : cnb σ l i s = false := by
                    unfold cnb
                    rw [decide_eq_false h2]
                    rfl
                  rw [decide_eq_false h2, c1]
                  show (if (nI 0 : Int32) = 0 then _ else _) = _
                  rw [if_pos (by decide), nI_1]
                  rfl
              · have c1 : cnb σ l i s = false := by
                  unfold cnb
                  rw [decide_eq_false h1, Bool.and_false]
                rw [decide_eq_false h1, c1]
                show (if (nI 0 : Int32) = 0 then _ else _) = _
                rw [if_pos (by decide), nI_1]
                rfl
            unfold F_X3_readFirst_26
            rw [(y1 t (by simp; omega)).1, T.1.1, if_neg (nI_ge hs (by omega)), qr, show nI l.length - 1 = nI (l.length - 1) by rw [li_1, subN (by omega)]]
            by_cases h1 : i = l.length - 1
            · have ge := G_end (σ := σ) (l := l) (i := i + 1) (by omega) s
              rw [if_neg (by omega)] at ge
              have f1 := H.2.1 (10 + s) (by omega) (by omega)
              have d1 : decide (σ (10 + s) = 1) = decide (G σ (l.drop (i + 1)) s ≠ 0) := by
                rw [ge]
                apply decide_eq_decide.mpr
                omega
              rw [if_pos (by rw [← h1]), c_mayEnd Tq H (by omega), bndS, d1, b62]
            · rw [if_neg (fun z => h1 ((nI_eq (by omega) (by omega)).mp z)), q0, if_pos (by omega), c_leadsTo Tq H (by omega) (by omega) (hw _ (by omega)), bndS]
              rw [q0, if_pos (by omega)] at b62
              rw [b62]
          · by_cases h1 : cnb σ l i s = true
            · rw [if_pos h1]; exact y1.tr (Same.ofI (by decide))
            · rw [if_neg h1]; exact y1
          · by_cases h1 : cnb σ l i s = true
            · rw [if_pos h1]; exact y2
            · rw [if_neg h1]; exact y2
          · by_cases h1 : cnb σ l i s = true
            · rw [if_pos h1, sI_s]
            · rw [if_neg h1, bts_s, if_neg h1, Nat.or_zero]; exact y3
          · intro j hj
            by_cases h1 : cnb σ l i s = true
            · rw [if_pos h1, sI_nk1 hj]; exact y4 j hj
            · rw [if_neg h1]; exact y4 j hj) (sI g 118 i (nI 0)) ⟨q1.tr (Same.ofI (by decide)), q2, sI_s, fun j hj => sI_nk1 hj⟩ (by omega)
      refine ⟨nI (bts (cnb σ l i) (σ 0)), g2, ?_, by rw [if_pos hi], r1, r2, fun j hj1 hj2 => ?_⟩
      · unfold F_X3_readFirst_10
        rw [if_neg (nI_pos (by omega)), if_pos (inb_nI (by omega) (by omega)), lt_s0, nI_clamp (by omega)]
        rw [nI_clamp (by omega)] at ekz
        rw [← ekz, li_0, f2, ekz]
        show (if _ then _ else _) = _
        rw [if_pos (inb_nI (by omega) (by omega)), lt_s0, r3]
      · by_cases hj : j = i
        · subst hj
          exact r3
        · rw [r4 j hj]
          exact q3 j (by omega) hj2) 0 h ⟨by rw [if_neg (by omega)]; rfl, Same.rf, rfl, fun j h1 h2 => by omega⟩ (by omega)
  exact ⟨g, e, p1, p2, fun j hj => p3 j (by omega) hj⟩
theorem c_readFirst {t r : Nat} {l : List Nat} (T : TgRep h t σ nm) (H : TgOk σ nm) (ht : t < 100) (hr : h.1 r 1 = nI l.length) (hf : lsI (h.1 (r + 1)) l) (hw : ∀ i, i < l.length → l.getD i 0 < 8) (hn : l.length ≤ aln (r + 1)) (hc : aln (r + 1) ≤ 24) (hr2 : r < 118 ∧ r + 1 < 118) (h0 : 0 < l.length) : ∃ h', Same [118, 119] h h' ∧ h'.2 = h.2 ∧ ((G σ l 5 ≠ 0 ∧ f_X3_readFirst t r h = some (1, h') ∧ ∀ j, j < l.length → h'.1 119 j = nI (pth σ l (j + 1))) ∨ (¬ G σ l 5 ≠ 0 ∧ f_X3_readFirst t r h = some (0, h'))) := by
  have s5 := H.1.1
  obtain ⟨k1, ek1⟩ : ∃ k1 : Hp → Option (Int32 × Hp), k1 = fun h22 => itr3 (F_X3_readFirst_125 t r (fun h30 => some (0, h30)) (fun h31 => if (h31.1 r 1) ≤ 0 then some (0, h31) else some (1, h31))) N0 5 0 h22 := ⟨_, rfl⟩
  obtain ⟨g, e, p1, p2, p3⟩ := c_readFirst1 T H ht hr hf hw hn hc (by omega) k1
  have fb : ∀ q : Hp, Same [118, 119] h q → q.2 = h.2 → TgRep q t σ nm := fun q z1 z2 => T.kept (fun a y1 y2 => ⟨(z1 a (by simp; omega)).1, by rw [z2]⟩)
  have s1 : Same [118, 119] h g := p1.mono (fun q hq => by simp only [List.mem_cons, List.not_mem_nil, or_false] at hq ⊢; omega)
  have ef : f_X3_readFirst t r h = k1 g := by
    unfold f_X3_readFirst
    rw [lt_s0, hr, ← ek1, e]
  by_cases hG : G σ l 5 ≠ 0
  · obtain ⟨a, g2, f2, -, r1, r2, r3, -⟩ := loop3n (F := F_X3_readFirst_125 t r (fun h30 => some (0, h30)) (fun h31 => if (h31.1 r 1) ≤ 0 then some (0, h31) else some (1, h31))) (k := fun _ h31 => if (h31.1 r 1) ≤ 0 then some (0, h31) else some (1, h31)) l.length (fun i a q => a = nI (pth σ l i) ∧ Same [118, 119] h q ∧ q.2 = h.2 ∧ (∀ j, j < i → q.1 119 j = nI (pth σ l (j + 1))) ∧ q.1 118 = g.1 118) (fun self a q ⟨_, y1, _⟩ => by
        unfold F_X3_readFirst_125
        rw [if_pos (by rw [(y1 r (by simp; omega)).1, hr]; exact nI_le (Nat.le_refl _) (by omega))]) (fun self i a q hi ⟨y0, y1, y2, y3, y4⟩ => by
        obtain ⟨c1, c2⟩ := pth_fi H hw hG hi
        have po := (pth_ok H hw hG i (by omega)).1
        have q1 : f_X3_firstBehind t (nI (pth σ l i)) (nI (bts (cnb σ l i) (σ 0))) q = some (nI (pth σ l (i + 1)), q) := by
          rw [c_firstBehind (fb q y1 y2) H po, ← c1, ← gop_fi H (hw i hi)]
          rfl
        have q8 : q.1 118 i = nI (bts (cnb σ l i) (σ 0)) := by rw [y4]; exact p3 i hi
        refine ⟨nI (pth σ l (i + 1)), sI q 119 i (nI (pth σ l (i + 1))), ?_, rfl, y1.tr (Same.ofI (by decide)), y2, fun j hj => ?_, ?_⟩
        · unfold F_X3_readFirst_125
          rw [(y1 r (by simp; omega)).1, hr, if_neg (nI_ge hi (by omega)), if_pos (inb_nI (by omega) (by omega)), nI_clamp (by omega), q8, y0, q1, bndS, if_pos (nI_pos' (by omega)), if_pos (inb_nI (by omega) (by omega)), lt_s0, nI_1]
        · by_cases hj2 : j = i
          · subst hj2
            rw [sI_s]
          · rw [sI_nk1 hj2]
            exact y3 j (by omega)
        · rw [← y4]
          exact funext fun j => sI_ne1 (by decide)) (nI 5) g ⟨rfl, s1, p2, fun j hj => by omega, rfl⟩ (by omega)
    refine ⟨g2, r1, r2, Or.inl ⟨hG, ?_, r3⟩⟩
    rw [ef, ek1]
    show itr3 _ N0 5 0 g = _
    rw [li_5, li_0]
    rw [li_0] at f2
    rw [f2, (r1 r (by simp; omega)).1, hr, if_neg (show ¬ nI l.length ≤ nI 0 from nI_ge h0 (by omega))]
  · refine ⟨g, s1, p2, Or.inr ⟨hG, ?_⟩⟩
    rw [ef, ek1]
    show itr3 _ N0 5 0 g = _
    refine sq3 0 (fun _ => nI 5) (fun i => nI i) (fun _ => g) (fun self => ?_) (fun self i hi => by omega) (by omega) rfl rfl rfl
    have q1 : f_X3_firstBehind t (nI 5) (nI (bts (cnb σ l 0) (σ 0))) g = some (-1, g) := by
      rw [c_firstBehind (fb g s1 p2) H (by omega), ← pth_no H hw h0 hG, ← gop_fi H (hw 0 h0)]
      rfl
    unfold F_X3_readFirst_125
    rw [(s1 r (by simp; omega)).1, hr, if_neg (nI_ge h0 (by omega)), if_pos (inb_nI (by omega) (by omega)), nI_clamp (by omega), p3 0 h0, q1, bndS, if_neg (by decide)]
/-- the reference's loop from 4 down -/
def dn (p : Nat → Bool) : Nat → Int32
  | 0 => -1
  | j + 1 => if p (4 - j) = true then nI (4 - j) else dn p j
theorem dn_fi (p : Nat → Bool) : dn p 5 = fi p 5 := by
  cases h0 : p 0 <;> cases h1 : p 1 <;> cases h2 : p 2 <;> cases h3 : p 3 <;> cases h4 : p 4 <;> simp [dn, fi, fst, h0, h1, h2, h3, h4]
theorem m_sort57 {l : List Nat} {d o : Nat} {x2 x3 : Int32} (ms : ∀ k, k < 713 → h.1 157 k = nI (σ k)) (H : TgOk σ nm) (hd : d < l.length) (hl : l.length ≤ 24) (hw : ∀ i, i < l.length → l.getD i 0 < 8) (hc : ∀ k, k < 5 → h.2.1 167 (5 * d + k) = lN (Bk σ l d k)) (ho : (d = 0 ∧ o = 5) ∨ (0 < d ∧ o < 5 ∧ x3 = nI o)) (kk : Int32 → Hp → Option (Int32 × Hp)) : itr3 (F_X13_sortAt_57 x2 x3 (nI d) kk) N0 (-1) 4 h = kk (fi (gop σ l d o) 5) h := by
  have wd := hw d hd
  have lt63 : ∀ k, k < 5 → Bk σ l d k < 9223372036854775808 := fun k hk => by
    have a := G_le H (l.drop (d + 1)) k (fun x hx => mem_getD (P := fun x => x < 8) hw x (List.mem_of_mem_drop hx)) (by omega)
    have b := H.2.2.2.2.1 (72 + 5 * l.getD d 0 + k) (by omega) (by omega)
    have c : 5 ^ (l.drop (d + 1)).length ≤ 5 ^ 24 := Nat.pow_le_pow_right (by decide) (by rw [List.length_drop]; omega)
    unfold Bk
    rw [mul01 b]
    by_cases h1 : σ (72 + 5 * l.getD d 0 + k) = 1
    · rw [if_pos h1]
      have : (5 : Nat) ^ 24 < 9223372036854775808 := by decide
      omega
    · rw [if_neg h1]; omega
  obtain ⟨a, g, e, ha, hg⟩ := loopDn3 (F := F_X13_sortAt_57 x2 x3 (nI d) kk) (k := kk) 5 (fun i a g => a = dn (gop σ l d o) (5 - i) ∧ g = h) (fun self a g _ => by
      unfold F_X13_sortAt_57
      rw [if_pos (by decide)]) (fun self i a g hi ⟨q0, q1⟩ => by
      subst q1
      refine ⟨dn (gop σ l d o) (5 - i), g, ?_, rfl, rfl⟩
      have es : dn (gop σ l d o) (5 - i) = if gop σ l d o i = true then nI i else dn (gop σ l d o) (5 - (i + 1)) := by
        rw [show 5 - i = (5 - (i + 1)) + 1 by omega]
        show (if gop σ l d o (4 - (5 - (i + 1))) = true then _ else _) = _
        rw [show 4 - (5 - (i + 1)) = i by omega]
      rw [es, ← q0]
      unfold F_X13_sortAt_57
      rw [if_neg (nI_pos (by omega)), li_5, pk_mul, nI_add, if_pos (inb_nI (by omega) (by decide)), nI_clamp (by omega), hc i hi]
      have bk := Bk_cnb H wd hi
      by_cases h1 : Bk σ l d i ≠ 0
      · have c1 : cnb σ l d i = true := by rw [← bk]; exact h1
        rw [if_neg (by rw [li_0, lcLE, show (0 : Int64) = lN 0 from rfl]; exact fun z => absurd ((pk_lLE (lt63 i hi) (by decide)).mp z) (by omega))]
        have gp : gop σ l d o i = decide (fol σ o i = 1) := by unfold gop; rw [c1, Bool.and_true]
        rw [gp]
        rcases ho with ⟨h2, h3⟩ | ⟨h2, h3, h4⟩
        · have f1 := H.2.1 (5 + i) (by omega) (by omega)
          have fe : fol σ o i = σ (5 + i) := by rw [h3]; exact if_pos rfl
          rw [fe, if_pos (by rw [h2]; rfl), nI_add, if_pos (inb_nI (by omega) (by decide)), nI_clamp (by omega), ms _ (by omega)]
          by_cases h5 : σ (5 + i) = 1
          · rw [h5, if_pos (by decide), if_pos (by decide)]
          · rw [if_neg (show ¬ nI (σ (5 + i)) = 1 from fun z => h5 ((nI_eq (b := 1) (by omega) (by omega)).mp z)), if_neg (by simp [h5])]
        · have f1 := H.2.1 (15 + 5 * o + i) (by omega) (by omega)
          have fe : fol σ o i = σ (15 + 5 * o + i) := if_neg (by omega)
          rw [fe, if_neg (by rw [li_0]; exact fun z => by have := (nI_eq (by omega) (by omega)).mp z; omega), h4, li_15, pk_mul, nI_add, nI_add, if_pos (inb_nI (by omega) (by decide)), nI_clamp (by omega), ms _ (by omega)]
          by_cases h5 : σ (15 + 5 * o + i) = 1
          · rw [h5, if_pos (by decide), if_pos (by decide)]
          · rw [if_neg (show ¬ nI (σ (15 + 5 * o + i)) = 1 from fun z => h5 ((nI_eq (b := 1) (by omega) (by omega)).mp z)), if_neg (by simp [h5])]
      · have c1 : gop σ l d o i = false := by
          unfold gop
          rw [show cnb σ l d i = false from Bool.eq_false_iff.mpr (fun z => h1 (by rw [bk]; exact z)), Bool.and_false]
        have h2 : Bk σ l d i = 0 := by omega
        rw [c1, h2, if_pos (by decide)]
        rfl) (-1) h ⟨rfl, rfl⟩ (by omega)
  have e' : itr3 (F_X13_sortAt_57 x2 x3 (nI d) kk) N0 (-1) 4 h = kk a g := e
  rw [e', ha, hg, ← dn_fi]
theorem st_sortAt (x y : Int32) (hI : Inv h) : ∃ v h1 h2, f_X12_sortAt x y h = some (v, h1) ∧ f_X13_sortAt x y h1 = some (v, h2) ∧ Inv h2 := by
  obtain ⟨tp, σ, nm, K, fd, fl, tn, hA, hC, hM⟩ := hI
  have hS := hA.2.1
  have H := hS.1
  have h8 := H.1.2.2.1
  have e5' := H.1.2.2.2.2.1
  have t3 : h.1 9 0 = nI (σ 3) := hC.2.1.1.1.2.2.2.1
  rcases c_begAll x t3 (by omega) with ⟨b, hb, rfl, c1⟩ | ⟨c1, hb⟩
  · obtain ⟨g, s1, s2, s3, s4⟩ := c_strike (b := b) hA hC (by omega)
    have C1 := hC.scr2 hA s4 (by decide)
    have ln := TX_len hS b
    have lm : ∀ x ∈ TX σ b, x < 8 := fun x hx => by have := TX_mem hS b x hx; omega
    have lw : ∀ i, i < (TX σ b).length → (TX σ b).getD i 0 < 8 := fun i hi => getD_P hi lm
    by_cases hy : ∃ j, j < (TX σ b).length ∧ y = nI j
    · obtain ⟨j, hj, rfl⟩ := hy
      obtain ⟨g2, a1, a2, a3⟩ := c_readFirst (t := 7) (r := 114) (l := TX σ b) C1.2.1.1 H (by omega) s2 s3 lw (show _ ≤ 24 from ln) (by decide) (by omega) (by omega)
      have C2 := C1.scr2 hA a1 (by decide)
      have M1 := ((hM.hi (s4.hi (by decide))).hi (a1.hi (by decide))).keep (th_Eq 0)
      obtain ⟨h2, e2, l1, l2, M2, L2⟩ := m_leftT (b := b) M1 hS hb
      obtain ⟨h3, e3, b1, b2, b3⟩ := m_count (l := TX σ b) M2.2.1 l1 l2 ln lm H
      have M3 := M2.scr b1 (by decide)
      have iIn : f_X13_isIn (nI j) 0 (nI (TX σ b).length - 1) h2 = some (1, h2) := by
        rcases m_isIn0 (nI j) (n := (TX σ b).length) h2 (by omega) with ⟨e, q⟩ | ⟨i, hi, -, e⟩
        · exact absurd rfl (q j hj)
        · exact e
      have s57 : ∀ d o x3 kk, d < (TX σ b).length → ((d = 0 ∧ o = 5) ∨ (0 < d ∧ o < 5 ∧ x3 = nI o)) → itr3 (F_X13_sortAt_57 (nI j) x3 (nI d) kk) N0 (-1) 4 h3 = kk (fi (gop σ (TX σ b) d o) 5) h3 := fun d o x3 kk hd ho => m_sort57 M3.2.1 H hd ln lw (b3 d hd) ho kk
      rcases a3 with ⟨hG, f2, f3⟩ | ⟨hG, f2⟩
      · refine ⟨nI (pth σ (TX σ b) (j + 1)), g2, h3, ?_, ?_, tp, σ, nm, K, fd, fl, tn, hA, C2.lo hA ((th_Lo 0).tr (L2.tr (b1.lo (by decide)))), M3⟩
        · unfold f_X12_sortAt f_X3_sortRead
          rw [c1, bndS, if_neg (by decide), s1, bndS, if_pos (by decide), if_neg (nI_pos (by omega)), s2, if_neg (nI_ge hj (by omega)), f2, bndS, if_neg (by decide), if_neg (nI_pos (by omega)), if_neg (show ¬ (24 : Int32) ≤ nI j from nI_ge (a := j) (b := 24) (by omega) (by omega)), if_pos (inb_nI (by omega) (by decide)), nI_clamp (by omega), f3 j hj, bndS]
        · unfold f_X13_sortAt
          rw [lt_s0, m_begT (M1.2.1 3 (by omega)) (by omega) hb, bndS, if_neg (by decide), e2, bnvS, l1, iIn, bndS, if_neg (by decide), e3, bnvS]
          refine sq3 (j + 1) (fun d => if d = 0 then (-1 : Int32) else nI (pth σ (TX σ b) d)) (fun d => nI d) (fun _ => h3) (fun self => ?_) (fun self d hd => ?_) (by omega) rfl rfl rfl
          · unfold F_X13_sortAt_45
            rw [if_pos (nI_lt (by omega) (by omega)), if_neg (by omega)]
          · obtain ⟨z1, z2⟩ := pth_fi H lw hG (i := d) (by omega)
            unfold F_X13_sortAt_45
            rw [if_neg (nI_nlt (by omega) (by omega)), s57 d (pth σ (TX σ b) d) _ _ (by omega) ?_, z1, if_pos (nI_pos' (by omega)), if_neg (by omega), nI_1]
            by_cases hd0 : d = 0
            · left
              rw [hd0]
              exact ⟨rfl, rfl⟩
            · right
              refine ⟨by omega, ?_, by rw [if_neg hd0]⟩
              obtain ⟨z3, z4⟩ := pth_fi H lw hG (i := d - 1) (by omega)
              rw [show d - 1 + 1 = d by omega] at z4
              exact z4
      · refine ⟨-1, g2, h3, ?_, ?_, tp, σ, nm, K, fd, fl, tn, hA, C2.lo hA ((th_Lo 0).tr (L2.tr (b1.lo (by decide)))), M3⟩
        · unfold f_X12_sortAt
          rw [c1, bndS, if_neg (by decide), s1, bndS, if_pos (by decide), if_neg (nI_pos (by omega)), s2, if_neg (nI_ge hj (by omega)), f2, bndS, if_pos (by decide)]
        · unfold f_X13_sortAt
          rw [lt_s0, m_begT (M1.2.1 3 (by omega)) (by omega) hb, bndS, if_neg (by decide), e2, bnvS, l1, iIn, bndS, if_neg (by decide), e3, bnvS]
          refine sq3 0 (fun _ => (-1 : Int32)) (fun d => nI d) (fun _ => h3) (fun self => ?_) (fun self d hd => by omega) (by omega) rfl rfl rfl
          unfold F_X13_sortAt_45
          rw [if_neg (nI_nlt (by omega) (by omega)), s57 0 5 _ _ (by omega) (Or.inl ⟨rfl, rfl⟩), pth_no H lw (by omega) hG, if_neg (by decide)]
    · have M1 := (hM.hi (s4.hi (by decide))).keep (th_Eq 0)
      obtain ⟨h2, e2, l1, l2, M2, L2⟩ := m_leftT (b := b) M1 hS hb
      refine ⟨-1, g, h2, ?_, ?_, tp, σ, nm, K, fd, fl, tn, hA, C1.lo hA ((th_Lo 0).tr L2), M2⟩
      · unfold f_X12_sortAt
        rw [c1, bndS, if_neg (by decide), s1, bndS, if_pos (by decide)]
        by_cases h1 : y < 0
        · rw [if_pos h1]
        · rw [if_neg h1, s2, if_pos]
          rcases pk_ix y (n := (TX σ b).length) (by omega) with z | z | ⟨j, z1, z2⟩
          · exact absurd z h1
          · exact z
          · exact absurd ⟨j, z1, z2⟩ hy
      · unfold f_X13_sortAt
        rcases m_isIn0 y (n := (TX σ b).length) h2 (by omega) with ⟨e, q⟩ | ⟨i, hi, z, e⟩
        · rw [lt_s0, m_begT (M1.2.1 3 (by omega)) (by omega) hb, bndS, if_neg (by decide), e2, bnvS, l1, e, bndS, if_pos (by decide)]
        · exact absurd ⟨i, hi, z⟩ hy
  · have M1 := hM.keep (th_Eq 0)
    refine ⟨-1, h, sI h 155 0 0, ?_, ?_, tp, σ, nm, K, fd, fl, tn, hA, hC.lo hA (th_Lo 0), M1⟩
    · unfold f_X12_sortAt
      rw [c1, bndS, if_pos (by decide)]
    · unfold f_X13_sortAt
      rw [lt_s0, m_begF (M1.2.1 3 (by omega)) (by omega) hb, bndS, if_pos (by decide)]
end T8
