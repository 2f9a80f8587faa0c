section T5
variable {tp : List Nat} {σ τ : Nat → Nat} {nm : Nat → List Nat} {K : Im} {fd : List Nat} {fl : Nat} {tn : Option Tn} {h h' : Hp}
/-! MEANS depends on the TONGUE's numbers alone -/
theorem fol_c (e : ∀ k, k < 437 → τ k = σ k) {o k : Nat} (ho : o < 6) (hk : k < 5) : fol τ o k = fol σ o k := by
  unfold fol
  rw [e (5 + k) (by omega), e (15 + 5 * o + k) (by omega)]
theorem ain_c (e : ∀ k, k < 437 → τ k = σ k) (X : Nat) {k : Nat} (hk : k < 5) : ain τ X k = ain σ X k := by
  unfold ain
  refine ors_cong 6 (fun i hi => ?_)
  show (if fol τ i k = 1 then _ else _) = _
  rw [fol_c e hi hk]
theorem img_c (e : ∀ k, k < 437 → τ k = σ k) {p : Nat} (hp : p < 40) (s : Nat) : img τ p s = img σ p s := by
  unfold img img4
  dsimp only
  rw [e (112 + 8 * p) (by omega), e (112 + (8 * p + 1)) (by omega), e (112 + (8 * p + 2)) (by omega), e (112 + (8 * p + 3)) (by omega), e (112 + (8 * p + 4)) (by omega), e (112 + (8 * p + 4 + 1)) (by omega), e (112 + (8 * p + 4 + 2)) (by omega), e (112 + (8 * p + 4 + 3)) (by omega)]
theorem stp_c (e : ∀ k, k < 437 → τ k = σ k) (X : Nat) {w : Nat} (hw : w < 8) : stp τ X w = stp σ X w := by
  unfold stp
  refine pk8_cong 5 (fun k hk => ?_)
  unfold stb
  rw [e (72 + 5 * w + k) (by omega), ain_c e X hk, img_c e (by omega)]
theorem mnt_c (e : ∀ k, k < 437 → τ k = σ k) (X : Nat) : mnt τ X = mnt σ X := by
  unfold mnt
  refine ors_cong 5 (fun i hi => ?_)
  show (if τ (10 + i) = 1 then _ else _) = _
  rw [e (10 + i) (by omega)]
theorem run_c (e : ∀ k, k < 437 → τ k = σ k) {l : List Nat} (hl : ∀ x ∈ l, x < 8) : run τ l = run σ l := by
  have key : ∀ (l : List Nat) (X : Nat), (∀ x ∈ l, x < 8) → l.foldl (stp τ) X = l.foldl (stp σ) X := by
    intro l
    induction l with
    | nil => intro X _; rw [List.foldl_nil, List.foldl_nil]
    | cons w l ih =>
      intro X hl
      rw [List.foldl_cons, List.foldl_cons, stp_c e X (hl w (List.mem_cons_self ..))]
      exact ih _ (fun x hx => hl x (List.mem_cons_of_mem _ hx))
  unfold run
  exact key l 1099511627776 hl
theorem mean_c (e : ∀ k, k < 437 → τ k = σ k) {l : List Nat} (hl : ∀ x ∈ l, x < 8) : mean τ l = mean σ l := by
  unfold mean
  rw [run_c e hl, mnt_c e]
theorem m_textMeansS {b : Nat} (hM : MR tp σ nm K fd fl tn h) (hS : SgOk σ nm) (b1 : b ≤ σ 3) : ∃ h', f_X13_textMeans (nI b) h = some (nI (mean σ (TX σ b)), h') ∧ MR tp σ nm K fd fl tn h' ∧ Same [155, 161, 162, 164, 165, 166] h h' := by
  have H := hS.1
  have e5 := H.1.2.2.2.2.1
  obtain ⟨h1, e1, s1, s2, s3, s4, s5⟩ := m_settle hM H
  have M1 := hM.settled s1 s2 s3 s4 s5
  obtain ⟨h2, e2, l1, l2, ⟨l3, l3'⟩, l4, l5, l6⟩ := m_leaveText (b := b) M1.2.1 H hS.2.1 (by omega)
  have q2 : EqM h1 h2 := EqM.ofSame l3 (by decide) (fun j hj => l4 j (fun z => by subst z; revert hj; decide) (fun z => by subst z; revert hj; decide) (fun z => by subst z; revert hj; decide)) (by rw [l3'])
  have M2 := M1.keep q2
  have C2 : Cache σ h2 := by
    have := s5.2.2
    unfold Cache
    rw [(l3 166 (by decide)).1, (l3 165 (by decide)).1, (l3 164 (by decide)).1]
    exact this
  have e3 := m_meant (a := 162) (l := TX σ b) (h := h2) (fun k hk => M2.2.1 k (by omega)) C2 H (TX_mem hS b) (TX_len hS b) (by decide) l2
  refine ⟨h2, ?_, M2, (s1.mono (fun q hq => by simp only [List.mem_cons, List.not_mem_nil, or_false] at hq ⊢; omega)).tr (l3.mono (fun q hq => by simp only [List.mem_cons, List.not_mem_nil, or_false] at hq ⊢; omega))⟩
  unfold f_X13_textMeans
  rw [e1, bnvS, e2, bnvS, l1, e3, bndS]
/-! STAND IN -/
def sbS (σ : Nat → Nat) (i w : Nat) : Nat → Nat := fun k => if k = 438 + i then w else σ k
theorem sbS_n {i w k : Nat} (hk : k ≠ 438 + i) : sbS σ i w k = σ k := if_neg hk
def sbR (σ : Nat → Nat) (i w b : Nat) : List Nat := lf (stk (σ 3) (σ 4) b) (fun k => if k = i then w else σ (438 + k)) (σ 437)
theorem TX_sb (i w b : Nat) : TX (sbS σ i w) b = sbR σ i w b := by
  unfold TX sbR
  rw [sbS_n (by omega), sbS_n (by omega), sbS_n (by omega)]
  congr 1
  funext k
  unfold sbS
  by_cases hk : k = i
  · rw [if_pos (by omega), if_pos hk]
  · rw [if_neg (by omega), if_neg hk]
theorem sbR_mem (hS : SgOk σ nm) {i w : Nat} (hw : w < σ 2) (b : Nat) : ∀ x ∈ sbR σ i w b, x < σ 2 := lf_mem _ _ _ (fun k hk => by
  show (if k = i then w else σ (438 + k)) < σ 2
  by_cases h1 : k = i
  · rw [if_pos h1]; exact hw
  · rw [if_neg h1]
    have := hS.2.1.2 k hk
    rw [show 437 + 1 + k = 438 + k by omega] at this
    exact this)
theorem SgOk.sb (hS : SgOk σ nm) {i w : Nat} (hw : w < σ 2) (hi : i < σ 437) : SgOk (sbS σ i w) nm := by
  obtain ⟨a, b, c, d⟩ := hS
  have b1 := b.1
  refine ⟨a.cong (fun k hk => sbS_n (by omega)), ⟨by rw [sbS_n (by omega)]; exact b1, fun k hk => ?_⟩, by rw [sbS_n (by omega)]; exact c, fun c' hc => ?_⟩
  · rw [sbS_n (by omega)] at hk
    rw [sbS_n (k := 2) (by omega)]
    unfold sbS
    by_cases h1 : 437 + 1 + k = 438 + i
    · rw [if_pos h1]; exact hw
    · rw [if_neg h1]; exact b.2 k hk
  · rw [sbS_n (by omega)] at hc
    exact (d c' hc).cong (sbS_n (by omega)) (fun k hk => sbS_n (by omega))
def sin (σ : Nat → Nat) (i w : Nat) : Nat → Bool := fun b => decide (mean σ (TX σ b) = mean σ (sbR σ i w b))
theorem c_meanSame {t r r2 n n2 : Nat} {f f2 : Nat → Nat} (T : TgRep h t σ nm) (H : TgOk σ nm) (hn : h.1 r 1 = nI n) (hf : ∀ i, i < n → h.1 (r + 1) i = nI (f i)) (hl : ∀ i, i < n → f i < σ 2) (hr : n ≤ aln (r + 1)) (hc : aln (r + 1) ≤ 500) (hn2 : h.1 r2 1 = nI n2) (hf2 : ∀ i, i < n2 → h.1 (r2 + 1) i = nI (f2 i)) (hl2 : ∀ i, i < n2 → f2 i < σ 2) (hr2 : n2 ≤ aln (r2 + 1)) (hc2 : aln (r2 + 1) ≤ 500) : f_X3_meanTheSame t r r2 h = some (nI (allP (fun b => decide (mean σ (lf (stk (σ 3) (σ 4) b) f n) = mean σ (lf (stk (σ 3) (σ 4) b) f2 n2))) 0 (σ 3 + 1)).toNat, h) := by
  have T3 := T.1.2.2.2.1
  have e5 := H.1.2.2.2.2.1
  have mb : ∀ b, b < 1000 → f_X3_meansBy t r (nI b) h = _ := fun b hb => c_meansBy (b := b) T H hn hf hl hr hc hb
  have mb2 : ∀ b, b < 1000 → f_X3_meansBy t r2 (nI b) h = _ := fun b hb => c_meansBy (b := b) T H hn2 hf2 hl2 hr2 hc2 hb
  unfold f_X3_meanTheSame
  rw [li_0]
  have al := allLoop (h := h) (F := F_X3_meanTheSame_3 t r r2 (fun h7 => some (nI 0, h7)) (fun h8 => some (1, h8))) (k0 := some (nI 0, h)) (k1 := some (1, h)) (fun b => decide (mean σ (lf (stk (σ 3) (σ 4) b) f n) = mean σ (lf (stk (σ 3) (σ 4) b) f2 n2))) 0 (σ 3 + 1) (fun self => by
      unfold F_X3_meanTheSame_3
      rw [T3, if_pos (nI_lt (by omega) (by omega))]) (fun self i hi => by
      have l0 := mean_lt (σ := σ) (lf (stk (σ 3) (σ 4) (0 + i)) f n)
      have l1 := mean_lt (σ := σ) (lf (stk (σ 3) (σ 4) (0 + i)) f2 n2)
      unfold F_X3_meanTheSame_3
      rw [T3, if_neg (nI_nlt (by omega) (by omega)), mb _ (by omega), bndS, mb2 _ (by omega), bndS, nI_1]
      by_cases hm : mean σ (lf (stk (σ 3) (σ 4) (0 + i)) f n) = mean σ (lf (stk (σ 3) (σ 4) (0 + i)) f2 n2)
      · rw [if_pos (by rw [hm]), if_pos (decide_eq_true hm)]
      · rw [if_neg (fun z => hm ((nI_eq (by omega) (by omega)).mp z)), if_neg (fun z => hm (of_decide_eq_true z))]) (by omega)
  rw [al]
  cases allP (fun b => decide (mean σ (lf (stk (σ 3) (σ 4) b) f n) = mean σ (lf (stk (σ 3) (σ 4) b) f2 n2))) 0 (σ 3 + 1)
  · rfl
  · rfl
theorem st_standIn (x : Int32) (hI : Inv h) : ∃ v h1 h2, f_X12_standIn x h = some (v, h1) ∧ f_X13_standIn x h1 = some (v, h2) ∧ Inv h2 := by
  obtain ⟨tp, σ, nm, K, fd, fl, tn, hA, hC, hM⟩ := hI
  have hS := hA.2.1
  have H := hS.1
  have M1 := hM.keep (th_Eq 0)
  have e3 := H.1.2.2.2.1
  have e5 := H.1.2.2.2.2.1
  have h8 := H.1.2.2.1
  have n24 := hS.2.1.1
  have c18 : h.1 18 1 = nI (σ 437) := hC.2.1.2.1.1
  have c19 := hC.2.1.2.1.2
  have t2 : h.1 7 2 = nI (σ 2) := hC.2.1.1.1.2.2.1
  have rl : ∀ i, i < σ 437 → σ (438 + i) < σ 2 := fun i hi => by
    have := hS.2.1.2 i hi
    rw [show 437 + 1 + i = 438 + i by omega] at this
    exact this
  rcases m_isIn0 x (n := σ 437) (sI h 155 0 0) (by omega) with ⟨e, q⟩ | ⟨i, hi, rfl, e⟩
  · refine ⟨-1, h, sI h 155 0 0, ?_, ?_, tp, σ, nm, K, fd, fl, tn, hA, hC.lo hA (th_Lo 0), M1⟩
    · unfold f_X12_standIn
      by_cases h1 : x < 0
      · rw [if_pos h1]
      · rw [if_neg h1, c18, if_neg]
        intro z
        rw [fa_lt, nI_toInt (by omega)] at z
        rw [fa_lt, show (0 : Int32).toInt = 0 from rfl] at h1
        refine q x.toInt.toNat (by omega) ?_
        rw [fa_eq, nI_toInt (by omega)]
        omega
    · unfold f_X13_standIn
      rw [lt_s0, li_437, clp (by omega), M1.2.1 437 (by omega), e, bndS, if_pos rfl]
  · -- the class
    have rc := row_copy (d := 153) (s := 18) (n := σ 437) c18 (show _ ≤ 24 from n24) (show _ ≤ 24 from n24) (by decide)
    obtain ⟨h1, eh1⟩ : ∃ q, q = sI (cI h (18 + 1) 0 (153 + 1) 0 (σ 437)) 153 1 (nI (σ 437)) := ⟨_, rfl⟩
    have s1 : Same [153, 154] h h1 := by rw [eh1]; exact (Same.ofCI (by decide)).tr (Same.ofI (by decide))
    have r1 : ∀ k, k < σ 437 → h1.1 154 k = nI (σ (438 + k)) := fun k hk => by
      rw [eh1, sI_ne1 (by decide), show (154 : Nat) = 153 + 1 from rfl, cI_at, pk_cpy_in (by omega) (by omega), show 0 + (k - 0) = k by omega]
      exact c19 k hk
    obtain ⟨z, g, e1, hz, p1, p2, p3⟩ := loop3n (F := F_X12_standIn_38 (nI i) (fun v12 h11 => some (v12, h11))) (k := fun v12 h11 => some (v12, h11)) (σ 2) (fun w z g => z = nI (bts (fun w => allP (sin σ i w) 0 (σ 3 + 1)) w) ∧ Same [153, 154] h g ∧ g.1 153 1 = nI (σ 437) ∧ ∀ k, k < σ 437 → k ≠ i → g.1 154 k = nI (σ (438 + k))) (fun self z g ⟨_, q1, _⟩ => by
        unfold F_X12_standIn_38
        rw [(q1 7 (by decide)).1, t2, if_pos (nI_le (Nat.le_refl _) (by omega))]) (fun self w z g hw ⟨q0, q1, q2, q3⟩ => by
        obtain ⟨g2, eg2⟩ : ∃ q, q = sI g 154 i (nI w) := ⟨_, rfl⟩
        have s2 : Same [153, 154] h g2 := by rw [eg2]; exact q1.tr (Same.ofI (by decide))
        have Tg : TgRep g2 7 σ nm := hC.2.1.1.kept (fun q z1 z2 => ⟨(s2 q (by simp; omega)).1, (s2 q (by simp; omega)).2.1⟩)
        have cm := c_meanSame (h := g2) (t := 7) (r := 18) (r2 := 153) (n := σ 437) (n2 := σ 437) (f := fun i => σ (438 + i)) (f2 := fun k => if k = i then w else σ (438 + k)) Tg H (by rw [(s2 18 (by decide)).1]; exact c18) (fun k hk => by rw [(s2 19 (by decide)).1]; exact c19 k hk) rl (show _ ≤ 24 from n24) (by decide) (by rw [eg2, sI_ne1 (by decide)]; exact q2) (fun k hk => by
            show g2.1 154 k = nI (if k = i then w else σ (438 + k))
            by_cases h1 : k = i
            · rw [if_pos h1, h1, eg2, sI_s]
            · rw [if_neg h1, eg2, sI_nk1 h1]; exact q3 k hk h1) (fun k hk => by
            show (if k = i then w else σ (438 + k)) < σ 2
            by_cases h1 : k = i
            · rw [if_pos h1]; exact hw
            · rw [if_neg h1]; exact rl k hk) (show _ ≤ 24 from n24) (by decide)
        have cm' : f_X3_meanTheSame 7 18 153 g2 = some (nI (allP (sin σ i w) 0 (σ 3 + 1)).toNat, g2) := cm
        refine ⟨nI (bts (fun w => allP (sin σ i w) 0 (σ 3 + 1)) (w + 1)), g2, ?_, rfl, s2, by rw [eg2, sI_ne1 (by decide)]; exact q2, fun k hk h1 => by rw [eg2, sI_nk1 h1]; exact q3 k hk h1⟩
        rw [bts_s, q0]
        unfold F_X12_standIn_38
        rw [(q1 7 (by decide)).1, t2, if_neg (nI_ge hw (by omega)), if_pos (inb_nI (by omega) (by decide)), lt_s0, nI_clamp (by omega), ← eg2, cm', bndS, nI_1]
        cases hb : allP (sin σ i w) 0 (σ 3 + 1)
        · rw [if_pos (by decide)]
          simp
        · rw [if_neg (by decide), lt_s0, li_1, shl1 (by omega), fa_or]
          simp) (nI 0) h1 ⟨rfl, s1, by rw [eh1, sI_s], fun k hk _ => r1 k hk⟩ (by omega)
    -- the reference
    have Mg : MR tp σ nm K fd fl tn (sI g 155 0 0) := (hM.hi (p1.hi (by decide))).keep (th_Eq 0)
    obtain ⟨g0, eg0⟩ : ∃ q, q = sI g 155 0 0 := ⟨_, rfl⟩
    rw [← eg0] at Mg
    have L0 : Lo g g0 := by rw [eg0]; exact th_Lo 0
    obtain ⟨k1, ek1⟩ : ∃ k1 : Hp → Option (Int32 × Hp), k1 = fun h10 => if inb (438 + nI i) 713 = true then lt (h10.1 157 ((438 + nI i).toNatClampNeg)) fun v12 => itr3 (F_X13_standIn_70 (nI i) v12 (fun v28 h27 => if inb (438 + nI i) 713 = true then lt (sI h27 157 ((438 + nI i).toNatClampNeg) v12) fun h30 => some (v28, h30) else none)) N0 0 0 h10 else none := ⟨_, rfl⟩
    obtain ⟨g1, f1, w1, w2, w3⟩ := loop2n (F := F_X13_standIn_27 (nI i) k1) (k := k1) (σ 3 + 1) (fun b q => MR tp σ nm K fd fl tn q ∧ Lo g0 q ∧ ∀ k, k < b → q.1 168 k = nI (mean σ (TX σ k))) (fun self q ⟨q1, _⟩ => by
        have g3 := q1.2.1 3 (by omega)
        unfold F_X13_standIn_27
        rw [li_3, clp (by omega), g3, if_pos (nI_lt (by omega) (by omega))]) (fun self b q hb ⟨q1, q2, q3⟩ => by
        have g3 := q1.2.1 3 (by omega)
        obtain ⟨q', f2, N2, O2⟩ := m_textMeansS (b := b) q1 hS (by omega)
        refine ⟨sI q' 168 b (nI (mean σ (TX σ b))), ?_, N2.scr (Same.ofI (X := [168]) (by decide)) (by decide), q2.tr ((O2.lo (by decide)).tr ((Same.ofI (X := [168]) (by decide)).lo (by decide))), fun k hk => ?_⟩
        · unfold F_X13_standIn_27
          rw [li_3, clp (by omega), g3, if_neg (nI_nlt (by omega) (by omega)), f2, bndS, if_pos (inb_nI (by omega) (by decide)), lt_s0, nI_clamp (by omega), nI_1]
        · by_cases hk2 : k = b
          · subst hk2
            rw [sI_s]
          · rw [sI_nk1 hk2, (O2 168 (by decide)).1]
            exact q3 k (by omega)) g0 ⟨Mg, Lo.rf, fun k hk => by omega⟩ (by omega)
    have a1 : (438 : Int32) + nI i = nI (438 + i) := by rw [li_438, nI_add]
    have w1' := w1.2.1 (438 + i) (by omega)
    obtain ⟨y, g2, f2, hy, ⟨τ, v1, v2⟩, v3⟩ := loop3n (F := F_X13_standIn_70 (nI i) (nI (σ (438 + i))) (fun v28 h27 => if inb (438 + nI i) 713 = true then lt (sI h27 157 ((438 + nI i).toNatClampNeg) (nI (σ (438 + i)))) fun h30 => some (v28, h30) else none)) (k := fun v28 h27 => if inb (438 + nI i) 713 = true then lt (sI h27 157 ((438 + nI i).toNatClampNeg) (nI (σ (438 + i)))) fun h30 => some (v28, h30) else none) (σ 2) (fun w z q => z = nI (bts (fun w => allP (sin σ i w) 0 (σ 3 + 1)) w) ∧ (∃ τ, (∀ k, k ≠ 438 + i → τ k = σ k) ∧ MR tp τ nm K fd fl tn q) ∧ Lo g0 q ∧ ∀ k, k < σ 3 + 1 → q.1 168 k = nI (mean σ (TX σ k))) (fun self z q ⟨_, ⟨τ, u1, u2⟩, _⟩ => by
        have g3 := u2.2.1 2 (by omega)
        rw [u1 2 (by omega)] at g3
        unfold F_X13_standIn_70
        rw [li_2, clp (by omega), g3, if_pos (nI_le (Nat.le_refl _) (by omega))]) (fun self w z q hw ⟨q0, ⟨τ, u1, u2⟩, q2, q3⟩ => by
        have g3 := u2.2.1 2 (by omega)
        rw [u1 2 (by omega)] at g3
        have S2 := hS.sb (i := i) hw hi
        have N2 : MR tp (sbS σ i w) nm K fd fl tn (sI q 157 (438 + i) (nI w)) := u2.sig (fun k hk => by rw [sbS_n (by omega), u1 k (by omega)]) (Same.ofI (by decide)) (fun k hk => by
          by_cases h1 : k = 438 + i
          · rw [h1, sI_s]
            unfold sbS
            rw [if_pos rfl]
          · rw [sI_nk1 h1, sbS_n h1, ← u1 k h1]
            exact u2.2.1 k hk)
        obtain ⟨q', eq'⟩ : ∃ z, z = sI q 157 (438 + i) (nI w) := ⟨_, rfl⟩
        rw [← eq'] at N2
        have L2 : Lo g0 q' := by rw [eq']; exact q2.tr ((Same.ofI (X := [157]) (by decide)).lo (by decide))
        have r2 : ∀ k, k < σ 3 + 1 → q'.1 168 k = nI (mean σ (TX σ k)) := fun k hk => by rw [eq', sI_ne1 (by decide)]; exact q3 k hk
        obtain ⟨kk, ekk⟩ : ∃ kk : Int32 → Hp → Option (Int32 × Hp), kk = fun v23 h22 => if v23 = 0 then lt (z ||| 0) fun v25 => self v25 (nI w + 1) h22 else lt (z ||| (jshl 1 (nI w))) fun v26 => self v26 (nI w + 1) h22 := ⟨_, rfl⟩
        obtain ⟨y, q2', f3, hy, y1, y2, y3⟩ := loop3n (F := F_X13_standIn_99 (nI i) (nI (σ (438 + i))) z (nI w) kk) (k := kk) (σ 3 + 1) (fun b y q => y = nI (allP (sin σ i w) 0 b).toNat ∧ MR tp (sbS σ i w) nm K fd fl tn q ∧ Lo g0 q ∧ ∀ k, k < σ 3 + 1 → q.1 168 k = nI (mean σ (TX σ k))) (fun self y q ⟨_, y1, _⟩ => by
            have g3 := y1.2.1 3 (by omega)
            rw [sbS_n (by omega)] at g3
            unfold F_X13_standIn_99
            rw [li_3, clp (by omega), g3, if_pos (nI_lt (by omega) (by omega))]) (fun self b y q hb ⟨y0, y1, y2, y3⟩ => by
            have g3 := y1.2.1 3 (by omega)
            rw [sbS_n (by omega)] at g3
            have es : allP (sin σ i w) 0 (b + 1) = (allP (sin σ i w) 0 b && sin σ i w (0 + b)) := rfl
            unfold F_X13_standIn_99
            rw [li_3, clp (by omega), g3, if_neg (nI_nlt (by omega) (by omega))]
            cases hp : allP (sin σ i w) 0 b
            · refine ⟨nI (allP (sin σ i w) 0 (b + 1)).toNat, q, ?_, rfl, y1, y2, y3⟩
              rw [y0, hp, es, hp, if_pos (by decide), nI_1]
              rfl
            · obtain ⟨q', f4, N4, O4⟩ := m_textMeansS (b := b) y1 S2 (by rw [sbS_n (by omega)]; omega)
              have mc : mean (sbS σ i w) (TX (sbS σ i w) b) = mean σ (sbR σ i w b) := by
                rw [TX_sb]
                exact mean_c (fun k hk => sbS_n (by omega)) (fun x hx => by have := sbR_mem hS (i := i) hw b x hx; omega)
              have q8 : q'.1 168 b = nI (mean σ (TX σ b)) := by rw [(O4 168 (by decide)).1]; exact y3 b hb
              have l0 := mean_lt (σ := σ) (TX σ b)
              have l1 := mean_lt (σ := σ) (sbR σ i w b)
              refine ⟨nI (allP (sin σ i w) 0 (b + 1)).toNat, q', ?_, rfl, N4, y2.tr (O4.lo (by decide)), fun k hk => by rw [(O4 168 (by decide)).1]; exact y3 k hk⟩
              rw [y0, hp, es, hp, if_neg (by decide), f4, bndS, if_pos (inb_nI (by omega) (by decide)), nI_clamp (by omega), q8, mc, nI_1]
              by_cases hm : mean σ (TX σ b) = mean σ (sbR σ i w b)
              · rw [if_pos (by rw [hm])]
                have : sin σ i w (0 + b) = true := by
                  rw [Nat.zero_add]
                  exact decide_eq_true hm
                rw [this]
                rfl
              · rw [if_neg (fun z => hm ((nI_eq (by omega) (by omega)).mp z).symm)]
                have : sin σ i w (0 + b) = false := by
                  rw [Nat.zero_add]
                  exact decide_eq_false hm
                rw [this]
                rfl) (nI 1) q' ⟨rfl, N2, L2, r2⟩ (by omega)
        refine ⟨nI (bts (fun w => allP (sin σ i w) 0 (σ 3 + 1)) (w + 1)), q2', ?_, rfl, ⟨sbS σ i w, fun k hk => sbS_n hk, y1⟩, y2, y3⟩
        unfold F_X13_standIn_70
        rw [li_2, clp (by omega), g3, if_neg (nI_ge hw (by omega)), a1, if_pos (inb_nI (by omega) (by decide)), lt_s0, nI_clamp (by omega), ← eq']
        rw [← ekk, li_0, li_1, f3, hy, ekk, bts_s, q0]
        cases hp : allP (sin σ i w) 0 (σ 3 + 1)
        · show (if (nI 0 : Int32) = 0 then _ else _) = _
          rw [if_pos (by decide), lt_s0, li_0, fa_or, nI_1]
          simp
        · show (if (nI 1 : Int32) = 0 then _ else _) = _
          rw [if_neg (by decide), lt_s0, li_1, shl1 (by omega), fa_or, nI_add]
          simp) (nI 0) g1 ⟨rfl, ⟨σ, fun _ _ => rfl, w1⟩, w2, w3⟩ (by omega)
    have M3 : MR tp σ nm K fd fl tn (sI g2 157 (438 + i) (nI (σ (438 + i)))) := v2.sig (fun k hk => (v1 k (by omega)).symm) (Same.ofI (by decide)) (fun k hk => by
      by_cases h1 : k = 438 + i
      · rw [h1, sI_s]
      · rw [sI_nk1 h1, ← v1 k h1]
        exact v2.2.1 k hk)
    refine ⟨nI (bts (fun w => allP (sin σ i w) 0 (σ 3 + 1)) (σ 2)), g, sI g2 157 (438 + i) (nI (σ (438 + i))), ?_, ?_, tp, σ, nm, K, fd, fl, tn, hA, ?_, M3⟩
    · unfold f_X12_standIn
      rw [if_neg (nI_pos (by omega)), c18, if_pos (nI_lt hi (by omega)), rc, bnvS, ← eh1, li_0, e1, hz]
    · unfold f_X13_standIn
      rw [lt_s0, li_437, clp (by omega), ← eg0, Mg.2.1 437 (by omega)]
      have e' : f_X13_isIn (nI i) 0 (nI (σ 437) - 1) g0 = some (1, g0) := by
        rcases m_isIn0 (nI i) (n := σ 437) g0 (by omega) with ⟨e, q⟩ | ⟨j, hj, -, e⟩
        · exact absurd rfl (q i hi)
        · exact e
      rw [e', bndS, if_neg (by decide)]
      rw [← ek1, li_0, f1, ek1]
      show (if _ then _ else _) = _
      rw [a1, if_pos (inb_nI (by omega) (by decide)), lt_s0, nI_clamp (by omega), w1', li_0]
      rw [a1, nI_clamp (by omega)] at f2
      rw [f2, if_pos (inb_nI (by omega) (by decide)), lt_s0, hy]
    · have C1 : CR tp σ nm K fd fl tn g := hC.scr2 hA p1 (by decide)
      exact C1.lo hA (L0.tr (v3.1.tr ((Same.ofI (X := [157]) (by decide)).lo (by decide))))
end T5
