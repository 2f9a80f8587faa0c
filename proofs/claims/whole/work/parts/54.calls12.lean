section T9
variable {tp : List Nat} {σ τ : Nat → Nat} {nm : Nat → List Nat} {K : Im} {fd : List Nat} {fl : Nat} {tn : Option Tn} {h h' : Hp}
theorem cI2 (h : Hp) (x i y j n : Nat) : (cI h x i y j n).2 = h.2 := rfl
theorem cL1 (h : Hp) (x i y j n : Nat) : (cL h x i y j n).1 = h.1 := rfl
theorem cpy_0 {α : Type} {f g : Nat → α} {n j : Nat} (h2 : j < n) : va_cpy f g 0 0 n j = f j := by
  rw [pk_cpy_in (by omega) (by omega), show 0 + (j - 0) = j by omega]
theorem lc_0 : (0 : Int32).toNatClampNeg = 0 := rfl
theorem lc_16 : (16 : Int32).toNatClampNeg = 16 := lc (n := 16) (by decide)
theorem lc_6 : (6 : Int32).toNatClampNeg = 6 := lc (n := 6) (by decide)
theorem lc_5 : (5 : Int32).toNatClampNeg = 5 := lc (n := 5) (by decide)
theorem lc_8 : (8 : Int32).toNatClampNeg = 8 := lc (n := 8) (by decide)
theorem lc_320 : (320 : Int32).toNatClampNeg = 320 := lc (n := 320) (by decide)
theorem lc_1280 : (1280 : Int32).toNatClampNeg = 1280 := lc (n := 1280) (by decide)
theorem cp16 : cpOk 0 0 16 16 16 = true := by decide
theorem cp6 : cpOk 0 0 6 6 6 = true := by decide
theorem cp5 : cpOk 0 0 5 5 5 = true := by decide
theorem cp8 : cpOk 0 0 8 8 8 = true := by decide
theorem cp320 : cpOk 0 0 320 320 320 = true := by decide
theorem cp1280 : cpOk 0 0 1280 1280 1280 = true := by decide
/-- a TONGUE is copied -/
theorem c_tgCopy {t s : Nat} (hd : t + 10 < s ∨ s + 10 < t) : ∃ h', f_X10_copyFrom t s h = some h' ∧ (∀ a, a < t ∨ t + 10 < a → h'.1 a = h.1 a ∧ h'.2.1 a = h.2.1 a ∧ h'.2.2 a = h.2.2 a) ∧ ∀ σ nm, σ 2 ≤ 8 → TgRep h s σ nm → TgRep h' t σ nm := by
  refine ⟨_, by
    unfold f_X10_copyFrom f_X1_tell
    simp only [lt_s1, bnvS, cp16, cp6, cp5, cp8, cp320, cp1280, ↓reduceIte, lc_0, lc_16, lc_6, lc_5, lc_8, lc_320, lc_1280]
    rfl, ?_, ?_⟩
  · intro a ha
    refine ⟨funext fun j => ?_, funext fun j => ?_, rfl⟩
    · simp (disch := omega) only [sI_ne1, cI_ne1, sL1, cL1]
    · simp (disch := omega) only [sI2, cI2, sL_ne1, cL_ne1]
  · intro σ nm h8 ⟨⟨a1, a2, a3, a4, a5⟩, b, c, ⟨d, d2⟩, f, ⟨g, g2⟩, k, m⟩
    refine ⟨⟨?_, ?_, ?_, ?_, ?_⟩, ?_, ?_, ⟨?_, ?_⟩, ?_, ⟨?_, ?_⟩, ?_, ?_⟩
    · simp (disch := omega) only [sI_ne1, cI_ne1, sL1, cL1, sI_nk1, sI_s]
      exact a1
    · simp (disch := omega) only [sI_ne1, cI_ne1, sL1, cL1, sI_nk1, sI_s]
      exact a2
    · simp (disch := omega) only [sI_ne1, cI_ne1, sL1, cL1, sI_nk1, sI_s]
      exact a3
    · simp (disch := omega) only [sI_ne1, cI_ne1, sL1, cL1, sI_nk1, sI_s]
      exact a4
    · simp (disch := omega) only [sI_ne1, cI_ne1, sL1, cL1, sI_nk1, sI_s]
      exact a5
    · intro w hw
      simp (disch := omega) only [sI_ne1, cI_ne1, sL1, cL1, cI_at, cpy_0]
      exact b w hw
    · intro w hw hw2
      simp (disch := omega) only [sI_ne1, cI_ne1, sL1, cL1, cI_at, cpy_0]
      exact c w hw hw2
    · intro w hw
      simp (disch := omega) only [sI2, cI2, sL_ne1, cL_ne1, cL_at, cpy_0]
      exact d w hw
    · simp (disch := omega) only [sI2, cI2, sL_ne1, cL_ne1, sL_s]
      exact d2
    · intro w hw
      obtain ⟨f1, f2, f3⟩ := f w hw
      refine ⟨?_, ?_, ?_⟩
      · simp (disch := omega) only [sI_ne1, cI_ne1, sL1, cL1, cI_at, cpy_0]
        exact f1
      · simp (disch := omega) only [sI_ne1, cI_ne1, sL1, cL1, cI_at, cpy_0]
        exact f2
      · simp (disch := omega) only [sI_ne1, cI_ne1, sL1, cL1, cI_at, cpy_0]
        exact f3
    · intro w hw
      simp (disch := omega) only [sI_ne1, cI_ne1, sL1, cL1, cI_at, cpy_0]
      exact g w hw
    · simp (disch := omega) only [sI_ne1, cI_ne1, sL1, cL1, sI_nk1, sI_s]
      exact g2
    · intro w hw
      simp (disch := omega) only [sI_ne1, cI_ne1, sL1, cL1, cI_at, cpy_0]
      exact k w hw
    · intro hz w hw
      simp (disch := omega) only [sI_ne1, cI_ne1, sL1, cL1, cI_at, cpy_0]
      exact m hz w hw
/-- TONGUE, TEXT and BOOK are copied -/
theorem c_matCopy {d s : Nat} (hd : d + 34 < s ∨ s + 34 < d) (hS : SgOk σ nm) (R : MatRep h s σ nm) (a1 : aln (d + 12 + 1) = 24) (a2 : aln (s + 12 + 1) = 24) (a3 : ∀ c, c < 10 → aln (d + 14 + 1 + 2 * c + 1) = 24) (a4 : ∀ c, c < 10 → aln (s + 14 + 1 + 2 * c + 1) = 24) : ∃ h', f_X5_copyFrom d s h = some h' ∧ (∀ a, a < d ∨ d + 34 < a → h'.1 a = h.1 a ∧ h'.2.1 a = h.2.1 a ∧ h'.2.2 a = h.2.2 a) ∧ MatRep h' d σ nm := by
  have n24 := hS.2.1.1
  have c10 := hS.2.2.1
  obtain ⟨R1, ⟨R2, R3⟩, R4, R5⟩ := R
  obtain ⟨h1, e1, k1, T1⟩ := c_tgCopy (h := h) (t := d + 1) (s := s + 1) (by omega)
  have T1 := T1 σ nm hS.1.1.2.2.1 R1
  have r2 : h1.1 (s + 12) 1 = nI (σ 437) := by rw [(k1 _ (by omega)).1]; exact R2
  have rc := row_copy (h := h1) (d := d + 12) (s := s + 12) (n := σ 437) r2 (by rw [a1]; exact n24) (by rw [a2]; exact n24) (by rw [a1]; decide)
  obtain ⟨h3, eh3⟩ : ∃ q, q = sI (sI (cI h1 (s + 12 + 1) 0 (d + 12 + 1) 0 (σ 437)) (d + 12) 1 (nI (σ 437))) d 3 (nI (σ 462)) := ⟨_, rfl⟩
  have h3o : ∀ a, a ≠ d → a ≠ d + 12 → a ≠ d + 13 → h3.1 a = h1.1 a ∧ h3.2 = h1.2 := fun a z1 z2 z3 => by
    refine ⟨funext fun j => ?_, by rw [eh3]; rfl⟩
    rw [eh3, sI_ne1 z1, sI_ne1 z2, cI_ne1 z3]
  obtain ⟨g, e2, p1, p2, p3⟩ := loop2n (F := F_X5_copyFrom_32 d s (fun h8 => some h8)) (k := fun h8 => some h8) (σ 462) (fun c g => (∀ a, (∀ i, i < c → a ≠ d + 15 + 2 * i ∧ a ≠ d + 16 + 2 * i) → g.1 a = h3.1 a) ∧ g.2 = h3.2 ∧ ∀ i, i < c → g.1 (d + 15 + 2 * i) 1 = nI (σ (463 + 25 * i)) ∧ ∀ k, k < σ (463 + 25 * i) → g.1 (d + 16 + 2 * i) k = nI (σ (464 + 25 * i + k))) (fun self g ⟨q1, _⟩ => by
      have : g.1 d 3 = nI (σ 462) := by rw [q1 d (fun i hi => by omega), eh3, sI_s]
      unfold F_X5_copyFrom_32
      rw [this, if_pos (nI_le (Nat.le_refl _) (by omega))]) (fun self c g hc ⟨q1, q2, q3⟩ => by
      have g3 : g.1 d 3 = nI (σ 462) := by rw [q1 d (fun i hi => by omega), eh3, sI_s]
      have nc := (hS.2.2.2 c hc).1
      have so : ∀ a, s ≤ a → a ≤ s + 34 → g.1 a = h.1 a := fun a z1 z2 => by
        rw [q1 a (fun i hi => by omega), (h3o a (by omega) (by omega) (by omega)).1, (k1 a (by omega)).1]
      have r5 := R5 c hc
      have rs : g.1 (s + 14 + 1 + 2 * c) 1 = nI (σ (463 + 25 * c)) := by rw [so _ (by omega) (by omega)]; exact r5.1
      have rc := row_copy (h := g) (d := d + 14 + 1 + 2 * c) (s := s + 14 + 1 + 2 * c) (n := σ (463 + 25 * c)) rs (by rw [a3 c (by omega)]; exact nc) (by rw [a4 c (by omega)]; exact nc) (by rw [a3 c (by omega)]; decide)
      refine ⟨sI (cI g (s + 14 + 1 + 2 * c + 1) 0 (d + 14 + 1 + 2 * c + 1) 0 (σ (463 + 25 * c))) (d + 14 + 1 + 2 * c) 1 (nI (σ (463 + 25 * c))), ?_, fun a ha => ?_, q2, fun i hi => ?_⟩
      · unfold F_X5_copyFrom_32
        rw [g3, if_neg (nI_ge hc (by omega)), if_pos (inb_nI (by omega) (by decide)), if_pos (inb_nI (by omega) (by decide)), nI_clamp (by omega), rc, bnvS, nI_1]
      · have := ha c (by omega)
        rw [← q1 a (fun i hi => ha i (by omega))]
        funext j
        rw [sI_ne1 (by omega), cI_ne1 (by omega)]
      · by_cases hic : i = c
        · subst hic
          refine ⟨?_, fun k hk => ?_⟩
          · rw [show d + 15 + 2 * i = d + 14 + 1 + 2 * i by omega, sI_s]
          · rw [sI_ne1 (by omega), show d + 16 + 2 * i = d + 14 + 1 + 2 * i + 1 by omega, cI_at, cpy_0 hk, so _ (by omega) (by omega)]
            have := r5.2 k hk
            rw [show s + 16 + 2 * i = s + 14 + 1 + 2 * i + 1 by omega] at this
            exact this
        · have := q3 i (by omega)
          refine ⟨?_, fun k hk => ?_⟩
          · rw [sI_ne1 (by omega), cI_ne1 (by omega)]; exact this.1
          · rw [sI_ne1 (by omega), cI_ne1 (by omega)]; exact this.2 k hk) h3 ⟨fun _ _ => rfl, rfl, fun i hi => by omega⟩ (by omega)
  refine ⟨g, ?_, fun a ha => ?_, ?_, ⟨?_, fun k hk => ?_⟩, ?_, ?_⟩
  · unfold f_X5_copyFrom
    rw [e1, bnvS, rc, bnvS, lt_s0, sI_ne1 (show s ≠ d + 12 by omega), cI_ne1 (by omega), (k1 s (by omega)).1, R4, ← eh3, li_0, e2]
  · have z1 := p1 a (fun i hi => by omega)
    have z2 := h3o a (by omega) (by omega) (by omega)
    have z3 := k1 a (by omega)
    exact ⟨by rw [z1, z2.1, z3.1], by rw [p2, z2.2, z3.2.1], by rw [p2, z2.2, z3.2.2]⟩
  · refine T1.kept (fun a z1 z2 => ⟨?_, ?_⟩)
    · rw [p1 a (fun i hi => by omega), (h3o a (by omega) (by omega) (by omega)).1]
    · rw [p2, eh3]; rfl
  · rw [p1 _ (fun i hi => by omega), eh3, sI_ne1 (by omega), sI_s]
  · rw [p1 _ (fun i hi => by omega), eh3, sI_ne1 (by omega), sI_ne1 (by omega), show d + 13 = d + 12 + 1 by omega, cI_at, cpy_0 hk, (k1 _ (by omega)).1]
    exact R3 k hk
  · rw [p1 _ (fun i hi => by omega), eh3, sI_s]
  · exact p3
theorem al12 : aln (6 + 12 + 1) = 24 ∧ aln (42 + 12 + 1) = 24 ∧ aln (77 + 12 + 1) = 24 := by decide
theorem al14 : ∀ c, c < 10 → aln (6 + 14 + 1 + 2 * c + 1) = 24 ∧ aln (42 + 14 + 1 + 2 * c + 1) = 24 ∧ aln (77 + 14 + 1 + 2 * c + 1) = 24 := by decide
theorem alI (k : Nat) (hk : k < 2) : aln (42 + 35 * k + 12 + 1) = 24 ∧ ∀ c, c < 10 → aln (42 + 35 * k + 14 + 1 + 2 * c + 1) = 24 := by
  rcases (show k = 0 ∨ k = 1 by omega) with rfl | rfl
  · exact ⟨al12.2.1, fun c hc => (al14 c hc).2.1⟩
  · exact ⟨al12.2.2, fun c hc => (al14 c hc).2.2⟩
def imS (K : Im) (i : Nat) (σ : Nat → Nat) (nm : Nat → List Nat) : Im := fun k => if k = i then some (σ, nm) else K k
theorem bool1 : vp_nar .boolean 1 = 1 := by decide
theorem st_image (x : Int32) (hI : Inv h) : ∃ v h1 h2, f_X12_image x h = some (v, h1) ∧ f_X13_image x h1 = some (v, h2) ∧ Inv h2 := by
  obtain ⟨tp, σ, nm, K, fd, fl, tn, hA, hC, hM⟩ := hI
  have hS := hA.2.1
  have M1 := hM.keep (th_Eq 0)
  rcases m_isIn x (lo := 0) (hi := 1) (a := 0) (b := 1) (sI h 155 0 0) rfl rfl (by decide) (by decide) with ⟨e, q⟩ | ⟨i, -, hi, rfl, e⟩
  · refine ⟨0, h, sI h 155 0 0, ?_, ?_, tp, σ, nm, K, fd, fl, tn, hA, hC.lo hA (th_Lo 0), M1⟩
    · unfold f_X12_image
      by_cases h1 : x < 0
      · rw [if_pos h1]
      · rw [if_neg h1, if_neg]
        intro z
        obtain ⟨j, z1, z2, z3⟩ := in_range (x := x) (a := 0) (b := 1) (by decide) (by decide) h1 (fun z' => by
          rw [fa_lt] at z z'
          rw [show (2 : Int32).toInt = 2 from rfl] at z
          rw [nI_toInt (by decide)] at z'
          omega)
        exact q j z1 z2 z3
    · unfold f_X13_image
      rw [lt_s0, e, bndS, if_pos rfl]
  · obtain ⟨aI1, aI2⟩ := alI i (by omega)
    obtain ⟨h1, e1, k1, R1⟩ := c_matCopy (h := h) (d := 42 + 35 * i) (s := 6) (by omega) hS hC.2.1 aI1 al12.1 aI2 (fun c hc => (al14 c hc).1)
    obtain ⟨g, eg⟩ : ∃ q, q = sI h1 112 i 1 := ⟨_, rfl⟩
    have kg : ∀ a, a < 42 + 35 * i ∨ 42 + 35 * i + 34 < a → a ≠ 112 → g.1 a = h.1 a ∧ g.2.1 a = h.2.1 a ∧ g.2.2 a = h.2.2 a := fun a z1 z2 => by
      have := k1 a z1
      rw [eg]
      exact ⟨by rw [← this.1]; exact funext fun j => sI_ne1 z2, this.2⟩
    have A2 : AbOk tp σ nm (imS K i σ nm) fd fl tn := by
      obtain ⟨y1, y2, y3, y4⟩ := hA
      refine ⟨y1, y2, fun k q hk hq => ?_, y4⟩
      unfold imS at hq
      by_cases h1 : k = i
      · rw [if_pos h1] at hq
        cases hq
        exact y2
      · rw [if_neg h1] at hq
        exact y3 k q hk hq
    have C2 : CR tp σ nm (imS K i σ nm) fd fl tn g := by
      obtain ⟨a, b, c, d, f, gg, k⟩ := hC
      refine ⟨?_, ?_, ?_, ?_, ?_, ?_, ?_⟩
      · rw [(kg 2 (by omega) (by decide)).1, (kg 3 (by omega) (by decide)).1]; exact a
      · exact b.kept hA.2.1.2.2.1 (fun q z1 z2 => ⟨(kg q (by omega) (by omega)).1, (kg q (by omega) (by omega)).2.1⟩)
      · intro j hj
        unfold imS
        by_cases h1 : j = i
        · subst h1
          rw [if_pos rfl]
          refine ⟨by rw [eg, sI_s], R1.kept hS.2.2.1 (fun q z1 z2 => ⟨?_, ?_⟩)⟩
          · rw [eg]; exact funext fun _ => sI_ne1 (by omega)
          · rw [eg]; rfl
        · rw [if_neg h1]
          have cj := c j hj
          have hK := hA.2.2.1 j
          have g112 : g.1 112 j = h.1 112 j := by rw [eg, sI_nk1 h1, (k1 112 (by omega)).1]
          cases hk : K j with
          | none =>
            rw [hk] at cj
            show g.1 112 j = 0
            rw [g112]; exact cj
          | some q =>
            rw [hk] at cj
            show g.1 112 j = 1 ∧ MatRep g (42 + 35 * j) q.1 q.2
            rw [g112]
            exact ⟨cj.1, cj.2.kept (hK q hj hk).2.2.1 (fun z z1 z2 => ⟨(kg z (by omega) (by omega)).1, (kg z (by omega) (by omega)).2.1⟩)⟩
      · rw [(kg 1 (by omega) (by decide)).1]; exact d
      · rw [(kg 140 (by omega) (by decide)).1, (kg 141 (by omega) (by decide)).1]; exact f
      · rw [(kg 133 (by omega) (by decide)).1, (kg 134 (by omega) (by decide)).1, (kg 135 (by omega) (by decide)).1, (kg 133 (by omega) (by decide)).2.1]; exact gg
      · rw [(kg 123 (by omega) (by decide)).1]; exact k
    have hig : Hi h g := fun a ha => kg a (by omega) (by omega)
    have Mg : MR tp σ nm K fd fl tn (sI g 155 0 0) := (hM.hi hig).keep (th_Eq 0)
    obtain ⟨g0, eg0⟩ : ∃ q, q = sI g 155 0 0 := ⟨_, rfl⟩
    rw [← eg0] at Mg
    have L0 : Lo g g0 := by rw [eg0]; exact th_Lo 0
    obtain ⟨kB, ekB⟩ : ∃ k : Hp → Option (Int32 × Hp), k = fun h14 => if inb (nI i) 2 = true then lt (sI h14 185 ((nI i).toNatClampNeg) (vp_nar .boolean 1)) fun h16 => some (1, h16) else none := ⟨_, rfl⟩
    obtain ⟨kA, ekA⟩ : ∃ k : Hp → Option (Int32 × Hp), k = fun h9 => itr2 (F_X13_image_51 (nI i) kB) N0 0 h9 := ⟨_, rfl⟩
    obtain ⟨g1, f1, r1, r2, r3⟩ := loop2n (F := F_X13_image_18 (nI i) kA) (k := kA) 713 (fun j q => Same [183] g0 q ∧ q.2 = g0.2 ∧ ∀ a, q.1 183 a = if 713 * i ≤ a ∧ a < 713 * i + j then nI (σ (a - 713 * i)) else g0.1 183 a) (fun self q _ => by
        unfold F_X13_image_18
        rw [if_pos (by decide)]) (fun self j q hj ⟨y1, y2, y3⟩ => by
        have q7 : q.1 157 j = nI (σ j) := by rw [(y1 157 (by decide)).1]; exact Mg.2.1 j hj
        refine ⟨sI q 183 (713 * i + j) (nI (σ j)), ?_, y1.tr (Same.ofI (by decide)), y2, fun a => ?_⟩
        · unfold F_X13_image_18
          rw [li_713, if_neg (nI_ge hj (by omega)), if_pos (inb_nI (by omega) (by decide)), pk_mul, nI_add, if_pos (inb_nI (by omega) (by decide)), lt_s0, nI_clamp (by omega), nI_clamp (by omega), q7, nI_1]
        · rw [sI1]
          by_cases ha : a = 713 * i + j
          · subst ha
            rw [if_pos ⟨rfl, rfl⟩, if_pos (by omega), show 713 * i + j - 713 * i = j by omega]
          · rw [if_neg (fun z => ha z.2), y3 a]
            by_cases hb : 713 * i ≤ a ∧ a < 713 * i + j
            · rw [if_pos hb, if_pos (by omega)]
            · rw [if_neg hb, if_neg (by omega)]) g0 ⟨Same.rf, rfl, fun a => by rw [if_neg (by omega)]⟩ (by omega)
    obtain ⟨g2, f2, t1, t2, t3⟩ := loop2n (F := F_X13_image_51 (nI i) kB) (k := kB) 16 (fun j q => Same [184] g1 q ∧ q.1 = g1.1 ∧ ∀ a, q.2.1 184 a = if 16 * i ≤ a ∧ a < 16 * i + j then g0.2.1 159 (a - 16 * i) else g0.2.1 184 a) (fun self q _ => by
        unfold F_X13_image_51
        rw [if_pos (by decide)]) (fun self j q hj ⟨y1, y2, y3⟩ => by
        have q7 : q.2.1 159 j = g0.2.1 159 j := by rw [(y1 159 (by decide)).2.1, r2]
        refine ⟨sL q 184 (16 * i + j) (g0.2.1 159 j), ?_, y1.tr (Same.ofL (by decide)), y2, fun a => ?_⟩
        · unfold F_X13_image_51
          rw [li_16, if_neg (nI_ge hj (by omega)), if_pos (inb_nI (by omega) (by decide)), pk_mul, nI_add, if_pos (inb_nI (by omega) (by decide)), lt_s0, nI_clamp (by omega), nI_clamp (by omega), q7, nI_1]
        · rw [sL2]
          by_cases ha : a = 16 * i + j
          · subst ha
            rw [if_pos ⟨rfl, rfl⟩, if_pos (by omega), show 16 * i + j - 16 * i = j by omega]
          · rw [if_neg (fun z => ha z.2), y3 a]
            by_cases hb : 16 * i ≤ a ∧ a < 16 * i + j
            · rw [if_pos hb, if_pos (by omega)]
            · rw [if_neg hb, if_neg (by omega)]) g1 ⟨Same.rf, rfl, fun a => by rw [if_neg (by omega), r2]⟩ (by omega)
    obtain ⟨g3, eg3⟩ : ∃ q, q = sI g2 185 i 1 := ⟨_, rfl⟩
    have S3 : Same [183, 184, 185] g0 g3 := by
      rw [eg3]
      exact ((r1.mono (fun q hq => by simp only [List.mem_cons, List.not_mem_nil, or_false] at hq ⊢; omega)).tr (t1.mono (fun q hq => by simp only [List.mem_cons, List.not_mem_nil, or_false] at hq ⊢; omega))).tr (Same.ofI (by decide))
    refine ⟨1, g, g3, ?_, ?_, tp, σ, nm, imS K i σ nm, fd, fl, tn, A2, C2.lo A2 (L0.tr (S3.lo (by decide))), ?_⟩
    · unfold f_X12_image
      rw [if_neg (nI_pos (by omega)), if_pos (show nI i < (2 : Int32) from nI_lt (b := 2) (by omega) (by decide)), if_pos (inb_nI (by omega) (by decide)), nI_clamp (by omega), e1, bnvS, if_pos (inb_nI (by omega) (by decide)), lt_s0, bool1, ← eg]
    · have e' : f_X13_isIn (nI i) 0 1 g0 = some (1, g0) := m_isIn_t (a := 0) (b := 1) (j := i) _ rfl rfl rfl (by omega) hi (by decide)
      unfold f_X13_image
      rw [lt_s0, ← eg0, e', bndS, if_neg (by decide)]
      rw [← ekB, ← ekA, li_0, f1, ekA]
      show itr2 _ N0 0 g1 = _
      rw [li_0, f2, ekB]
      show (if _ then _ else _) = _
      rw [if_pos (inb_nI (by omega) (by decide)), lt_s0, nI_clamp (by omega), bool1, ← eg3]
    · obtain ⟨a, b, c, d, f, gg, k, m, n⟩ := Mg
      have ee : ∀ q, q ∉ [183, 184, 185] → g3.1 q = g0.1 q := fun q z => (S3 q z).1
      have l : ∀ q, q ∉ [183, 184, 185] → g3.2.1 q = g0.2.1 q := fun q z => (S3 q z).2.1
      have c183 : g3.1 183 = g1.1 183 := by rw [eg3]; exact funext fun j => (sI_ne1 (by decide)).trans (by rw [t2])
      have c184 : g3.2.1 184 = g2.2.1 184 := by rw [eg3]; rfl
      refine ⟨?_, ?_, ?_, ?_, ?_, ?_, ?_, ?_, ?_⟩
      · rw [ee 155 (by decide), ee 156 (by decide)]; exact a
      · rw [ee 157 (by decide)]; exact b
      · rw [l 159 (by decide)]; exact c
      · intro j hj
        unfold imS
        by_cases h1 : j = i
        · subst h1
          rw [if_pos rfl]
          refine ⟨by rw [eg3, sI_s], fun k hk => ?_, fun w hw => ?_⟩
          · rw [c183, r3, if_pos (by omega), show 713 * j + k - 713 * j = k by omega]
          · have w8 : w < 8 := by have : σ 2 ≤ 8 := hS.1.1.2.2.1; exact Nat.lt_of_lt_of_le hw this
            rw [c184, t3, if_pos (by omega), show 16 * j + 8 + w - 16 * j = 8 + w by omega]
            exact c w hw
        · rw [if_neg h1]
          have dj := d j hj
          have g185 : g3.1 185 j = g0.1 185 j := by rw [eg3, sI_nk1 h1, t2, (r1 185 (by decide)).1]
          cases hk : K j with
          | none =>
            rw [hk] at dj
            show g3.1 185 j = 0
            rw [g185]; exact dj
          | some q =>
            rw [hk] at dj
            show g3.1 185 j = 1 ∧ (∀ i, i < 713 → g3.1 183 (713 * j + i) = nI (q.1 i)) ∧ ∀ w, w < q.1 2 → g3.2.1 184 (16 * j + 8 + w) = lN (nmM (q.2 w))
            refine ⟨by rw [g185]; exact dj.1, fun k hk2 => ?_, fun w hw => ?_⟩
            · rw [c183, r3, if_neg (by omega)]
              exact dj.2.1 k hk2
            · have w8 : w < 8 := by
                have : q.1 2 ≤ 8 := (hA.2.2.1 j q hj hk).1.1.2.2.1
                exact Nat.lt_of_lt_of_le hw this
              rw [c184, t3, if_neg (by omega)]
              exact dj.2.2 w hw
      · rw [ee 155 (by decide)]; exact f
      · rw [ee 155 (by decide), ee 176 (by decide)]; exact gg
      · rw [ee 155 (by decide), ee 179 (by decide), ee 180 (by decide), l 155 (by decide)]; exact k
      · rw [l 160 (by decide)]; exact m
      · unfold Cache
        rw [ee 155 (by decide), ee 166 (by decide), ee 165 (by decide), ee 164 (by decide)]; exact n
end T9
