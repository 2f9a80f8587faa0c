section TA
variable {tp : List Nat} {σ τ : Nat → Nat} {nm nm2 : Nat → List Nat} {K : Im} {fd : List Nat} {fl : Nat} {tn : Option Tn} {h h' : Hp}
/-- another TONGUE, TEXT, BOOK at once -/
theorem CR.mat (hA : AbOk tp σ nm K fd fl tn) (H : CR tp σ nm K fd fl tn h) (hs : ∀ a, a < 155 → a ∉ scrL → a < 6 ∨ 40 < a → h'.1 a = h.1 a ∧ h'.2.1 a = h.2.1 a) (hb : h'.1 123 8 = -1) (R : MatRep h' 6 τ nm2) : CR tp τ nm2 K fd fl tn h' := by
  obtain ⟨a, b, c, d, f, g, k⟩ := H
  have e : ∀ q, q < 155 → q ∉ scrL → (q < 6 ∨ 40 < q) → h'.1 q = h.1 q := fun q h1 h2 h3 => (hs q h1 h2 h3).1
  refine ⟨?_, R, ?_, ?_, ?_, ?_, hb⟩
  · rw [e 2 (by decide) (by decide) (by decide), e 3 (by decide) (by decide) (by decide)]
    exact a
  · intro i hi
    have ci := c i hi
    have hK := hA.2.2.1 i
    cases hk : K i with
    | none =>
      rw [hk] at ci
      show h'.1 112 i = 0
      rw [e 112 (by decide) (by decide) (by decide)]
      exact ci
    | some q =>
      rw [hk] at ci
      show h'.1 112 i = 1 ∧ MatRep h' (42 + 35 * i) q.1 q.2
      rw [e 112 (by decide) (by decide) (by decide)]
      refine ⟨ci.1, ci.2.kept (hK q hi hk).2.2.1 (fun z h1 h2 => hs z (by omega) ?_ (by omega))⟩
      intro zz
      have key : ∀ x ∈ scrL, x < 42 ∨ 111 < x := by decide
      have := key z zz
      omega
  · rw [e 1 (by decide) (by decide) (by decide)]
    exact d
  · rw [e 140 (by decide) (by decide) (by decide), e 141 (by decide) (by decide) (by decide)]
    exact f
  · rw [e 133 (by decide) (by decide) (by decide), e 134 (by decide) (by decide) (by decide), e 135 (by decide) (by decide) (by decide), (hs 133 (by decide) (by decide) (by decide)).2]
    exact g
theorem MR.mat (H : MR tp σ nm K fd fl tn h) {X : List Nat} (hs : Same X h h') (hX : X.all (fun q => !([156, 160, 176, 179, 180, 183, 184, 185].contains q)) = true) (hf : ∀ j ∈ [2, 14, 42, 51, 53], h'.1 155 j = h.1 155 j) (hl : h'.2.1 155 52 = h.2.1 155 52) (h31 : h'.1 155 31 = 1) (h1 : ∀ k, k < 713 → h'.1 157 k = nI (τ k)) (h2 : ∀ w, w < τ 2 → h'.2.1 159 (8 + w) = lN (nmM (nm2 w))) : MR tp τ nm2 K fd fl tn h' := by
  obtain ⟨a, b, c, d, f, g, k, m, n⟩ := H
  have k1 : ∀ q ∈ [156, 160, 176, 179, 180, 183, 184, 185], q ∉ X := fun q hq z => by
    have := List.all_eq_true.mp hX q z
    simp only [Bool.not_eq_true', List.contains_eq_mem, decide_eq_false_iff_not] at this
    exact this hq
  have e : ∀ q ∈ [156, 160, 176, 179, 180, 183, 184, 185], h'.1 q = h.1 q := fun q hq => (hs q (k1 q hq)).1
  have l : ∀ q ∈ [156, 160, 176, 179, 180, 183, 184, 185], h'.2.1 q = h.2.1 q := fun q hq => (hs q (k1 q hq)).2.1
  refine ⟨?_, h1, h2, ?_, ?_, ?_, ?_, ?_, Or.inl h31⟩
  · rw [hf 2 (by decide), e 156 (by decide)]; exact a
  · rw [e 183 (by decide), e 185 (by decide), l 184 (by decide)]; exact d
  · rw [hf 14 (by decide)]; exact f
  · rw [hf 42 (by decide), e 176 (by decide)]; exact g
  · rw [hf 53 (by decide), hf 51 (by decide), e 179 (by decide), e 180 (by decide), hl]; exact k
  · rw [l 160 (by decide)]; exact m
theorem st_restore (x : Int32) (hI : Inv h) : ∃ v h1 h2, f_X12_restore x h = some (v, h1) ∧ f_X13_restore x h1 = some (v, h2) ∧ Inv h2 := by
  obtain ⟨tp, σ, nm, K, fd, fl, tn, hA, hC, hM⟩ := hI
  have M1 := hM.keep (th_Eq 0)
  rcases m_isIn x (lo := 0) (hi := 1) (a := 0) (b := 1) (sI h 155 0 0) rfl rfl (by decide) (by decide) with ⟨e, q⟩ | ⟨i, -, hi, rfl, e⟩
  · refine ⟨0, h, sI h 155 0 0, ?_, ?_, tp, σ, nm, K, fd, fl, tn, hA, hC.lo hA (th_Lo 0), M1⟩
    · unfold f_X12_restore
      by_cases h1 : x < 0
      · rw [if_pos h1]
      · rw [if_neg h1, if_pos]
        apply Classical.byContradiction
        intro z
        obtain ⟨j, z1, z2, z3⟩ := in_range (x := x) (a := 0) (b := 1) (by decide) (by decide) h1 (fun z' => z (by
          rw [fa_lt] at z'
          rw [fa_le, show (2 : Int32).toInt = 2 from rfl]
          rw [nI_toInt (by decide)] at z'
          omega))
        exact q j z1 z2 z3
    · unfold f_X13_restore
      rw [lt_s0, e, bndS, if_pos rfl]
  · have ci := hC.2.2.1 i (by omega)
    have mi := M1.2.2.2.1 i (by omega)
    cases hk : K i with
    | none =>
      rw [hk] at ci mi
      have mi' : (sI h 155 0 0).1 185 i = 0 := mi
      refine ⟨0, h, sI h 155 0 0, ?_, ?_, tp, σ, nm, K, fd, fl, tn, hA, hC.lo hA (th_Lo 0), M1⟩
      · unfold f_X12_restore
        rw [if_neg (nI_pos (by omega)), if_neg (show ¬ (2 : Int32) ≤ nI i from nI_ge (b := 2) (by omega) (by decide)), if_pos (inb_nI (by omega) (by decide)), nI_clamp (by omega), if_pos ci]
      · unfold f_X13_restore
        rw [lt_s0, e, bndS, if_neg (by decide), if_pos (inb_nI (by omega) (by decide)), nI_clamp (by omega), if_pos mi']
    | some p =>
      rw [hk] at ci
      have ci1 : h.1 112 i = 1 := ci.1
      have ci2 : MatRep h (42 + 35 * i) p.1 p.2 := ci.2
      have hp := hA.2.2.1 i p (by omega) hk
      obtain ⟨aI1, aI2⟩ := alI i (by omega)
      obtain ⟨g, e1, k1, R1⟩ := c_matCopy (h := h) (d := 6) (s := 42 + 35 * i) (by omega) hp ci2 al12.1 aI1 (fun c hc => (al14 c hc).1) aI2
      have A2 : AbOk tp p.1 p.2 K fd fl tn := ⟨hA.1, hp, hA.2.2⟩
      have C2 : CR tp p.1 p.2 K fd fl tn g := hC.mat hA (fun a z1 z2 z3 => ⟨(k1 a (by omega)).1, (k1 a (by omega)).2.1⟩) (by rw [(k1 123 (by omega)).1]; exact hC.2.2.2.2.2.2) R1
      have hig : Hi h g := fun a ha => k1 a (by omega)
      have Mg : MR tp σ nm K fd fl tn (sI g 155 0 0) := (hM.hi hig).keep (th_Eq 0)
      obtain ⟨g0, eg0⟩ : ∃ q, q = sI g 155 0 0 := ⟨_, rfl⟩
      rw [← eg0] at Mg
      have L0 : Lo g g0 := by rw [eg0]; exact th_Lo 0
      have mk := Mg.2.2.2.1 i (by omega)
      rw [hk] at mk
      have mk1 : g0.1 185 i = 1 := mk.1
      have mk2 : ∀ j, j < 713 → g0.1 183 (713 * i + j) = nI (p.1 j) := mk.2.1
      have mk3 : ∀ w, w < p.1 2 → g0.2.1 184 (16 * i + 8 + w) = lN (nmM (p.2 w)) := mk.2.2
      obtain ⟨kB, ekB⟩ : ∃ k : Hp → Option (Int32 × Hp), k = fun h16 => lt (sI h16 155 31 1) fun h17 => some (1, h17) := ⟨_, rfl⟩
      obtain ⟨kA, ekA⟩ : ∃ k : Hp → Option (Int32 × Hp), k = fun h11 => itr2 (F_X13_restore_60 (nI i) kB) N0 0 h11 := ⟨_, rfl⟩
      obtain ⟨g1, f1, r1, r2, r3⟩ := loop2n (F := F_X13_restore_27 (nI i) kA) (k := kA) 713 (fun j q => Same [157] g0 q ∧ q.2 = g0.2 ∧ ∀ a, a < j → q.1 157 a = nI (p.1 a)) (fun self q _ => by
          unfold F_X13_restore_27
          rw [if_pos (by decide)]) (fun self j q hj ⟨y1, y2, y3⟩ => by
          have q7 : q.1 183 (713 * i + j) = nI (p.1 j) := by rw [(y1 183 (by decide)).1]; exact mk2 j hj
          refine ⟨sI q 157 j (nI (p.1 j)), ?_, y1.tr (Same.ofI (by decide)), y2, fun a ha => ?_⟩
          · unfold F_X13_restore_27
            rw [li_713, if_neg (nI_ge hj (by omega)), pk_mul, nI_add, if_pos (inb_nI (by omega) (by decide)), if_pos (inb_nI (by omega) (by decide)), lt_s0, nI_clamp (by omega), nI_clamp (by omega), q7, nI_1]
          · by_cases ha2 : a = j
            · subst ha2
              rw [sI_s]
            · rw [sI_nk1 ha2]
              exact y3 a (by omega)) g0 ⟨Same.rf, rfl, fun a ha => by omega⟩ (by omega)
      obtain ⟨g2, f2, t1, t2, t3⟩ := loop2n (F := F_X13_restore_60 (nI i) kB) (k := kB) 16 (fun j q => Same [159] g1 q ∧ q.1 = g1.1 ∧ ∀ a, a < j → q.2.1 159 a = g0.2.1 184 (16 * i + a)) (fun self q _ => by
          unfold F_X13_restore_60
          rw [if_pos (by decide)]) (fun self j q hj ⟨y1, y2, y3⟩ => by
          have q7 : q.2.1 184 (16 * i + j) = g0.2.1 184 (16 * i + j) := by rw [(y1 184 (by decide)).2.1, r2]
          refine ⟨sL q 159 j (g0.2.1 184 (16 * i + j)), ?_, y1.tr (Same.ofL (by decide)), y2, fun a ha => ?_⟩
          · unfold F_X13_restore_60
            rw [li_16, if_neg (nI_ge hj (by omega)), pk_mul, nI_add, if_pos (inb_nI (by omega) (by decide)), if_pos (inb_nI (by omega) (by decide)), lt_s0, nI_clamp (by omega), nI_clamp (by omega), q7, nI_1]
          · by_cases ha2 : a = j
            · subst ha2
              rw [sL_s]
            · rw [sL_nk1 ha2]
              exact y3 a (by omega)) g1 ⟨Same.rf, rfl, fun a ha => by omega⟩ (by omega)
      obtain ⟨g3, eg3⟩ : ∃ q, q = sI g2 155 31 1 := ⟨_, rfl⟩
      have S3 : Same [155, 157, 159] g0 g3 := by
        rw [eg3]
        exact ((r1.mono (fun q hq => by simp only [List.mem_cons, List.not_mem_nil, or_false] at hq ⊢; omega)).tr (t1.mono (fun q hq => by simp only [List.mem_cons, List.not_mem_nil, or_false] at hq ⊢; omega))).tr (Same.ofI (by decide))
      refine ⟨1, g, g3, ?_, ?_, tp, p.1, p.2, K, fd, fl, tn, A2, C2.lo A2 (L0.tr (S3.lo (by decide))), ?_⟩
      · unfold f_X12_restore
        rw [if_neg (nI_pos (by omega)), if_neg (show ¬ (2 : Int32) ≤ nI i from nI_ge (b := 2) (by omega) (by decide)), if_pos (inb_nI (by omega) (by decide)), nI_clamp (by omega), ci1, if_neg (by decide), if_pos (inb_nI (by omega) (by decide)), e1, bnvS]
      · have e' : f_X13_isIn (nI i) 0 1 g0 = some (1, g0) := m_isIn_t (a := 0) (b := 1) (j := i) _ rfl rfl rfl (by omega) hi (by decide)
        unfold f_X13_restore
        rw [lt_s0, ← eg0, e', bndS, if_neg (by decide), if_pos (inb_nI (by omega) (by decide)), nI_clamp (by omega), mk1, if_neg (by decide)]
        rw [← ekB, ← ekA, li_0, f1, ekA]
        show itr2 _ N0 0 g1 = _
        rw [li_0, f2, ekB]
        show lt (sI g2 155 31 1) _ = _
        rw [lt_s0, ← eg3]
      · refine Mg.mat S3 (by decide) (fun j hj => ?_) ?_ (by rw [eg3, sI_s]) (fun k hk2 => ?_) (fun w hw => ?_)
        · have : j ≠ 31 := fun z => by subst z; revert hj; decide
          rw [eg3, sI_nk1 this, t2, (r1 155 (by decide)).1]
        · rw [eg3]
          show g2.2.1 155 52 = _
          rw [(t1 155 (by decide)).2.1, r2]
        · rw [eg3, sI_ne1 (by decide), t2]
          exact r3 k hk2
        · have w8 : w < 8 := Nat.lt_of_lt_of_le hw hp.1.1.2.2.1
          rw [eg3]
          show g2.2.1 159 (8 + w) = _
          rw [t3 (8 + w) (by omega), show 16 * i + (8 + w) = 16 * i + 8 + w by omega]
          exact mk3 w hw
/-- another row FOUND -/
theorem CR.fnd {fd2 : List Nat} (hA : AbOk tp σ nm K fd fl tn) (H : CR tp σ nm K fd fl tn h) (hs : ∀ a, a < 155 → a ∉ scrL → a ≠ 140 → a ≠ 141 → h'.1 a = h.1 a ∧ h'.2.1 a = h.2.1 a) (hb : h'.1 123 8 = -1) (h1 : h'.1 140 1 = nI fd2.length) (h2 : lsI (h'.1 141) fd2) : CR tp σ nm K fd2 fl tn h' := by
  obtain ⟨a, b, c, d, f, g, k⟩ := H
  have e : ∀ q, q < 155 → q ∉ scrL → q ≠ 140 → q ≠ 141 → h'.1 q = h.1 q := fun q z1 z2 z3 z4 => (hs q z1 z2 z3 z4).1
  refine ⟨?_, ?_, ?_, ?_, ⟨h1, h2⟩, ?_, hb⟩
  · rw [e 2 (by decide) (by decide) (by decide) (by decide), e 3 (by decide) (by decide) (by decide) (by decide)]
    exact a
  · refine b.kept hA.2.1.2.2.1 (fun q z1 z2 => hs q (by omega) ?_ (by omega) (by omega))
    intro z
    have key : ∀ x ∈ scrL, x < 6 ∨ 40 < x := by decide
    have := key q z
    omega
  · intro i hi
    have ci := c i hi
    have hK := hA.2.2.1 i
    cases hk : K i with
    | none =>
      rw [hk] at ci
      show h'.1 112 i = 0
      rw [e 112 (by decide) (by decide) (by decide) (by decide)]
      exact ci
    | some q =>
      rw [hk] at ci
      show h'.1 112 i = 1 ∧ MatRep h' (42 + 35 * i) q.1 q.2
      rw [e 112 (by decide) (by decide) (by decide) (by decide)]
      refine ⟨ci.1, ci.2.kept (hK q hi hk).2.2.1 (fun z h1 h2 => hs z (by omega) ?_ (by omega) (by omega))⟩
      intro zz
      have key : ∀ x ∈ scrL, x < 42 ∨ 111 < x := by decide
      have := key z zz
      omega
  · rw [e 1 (by decide) (by decide) (by decide) (by decide)]
    exact d
  · rw [e 133 (by decide) (by decide) (by decide) (by decide), e 134 (by decide) (by decide) (by decide) (by decide), e 135 (by decide) (by decide) (by decide) (by decide), (hs 133 (by decide) (by decide) (by decide) (by decide)).2]
    exact g
theorem MR.fnd {fd2 : List Nat} (H : MR tp σ nm K fd fl tn h) (hs : Same [155, 176] h h') (hf : ∀ j, j ≠ 42 → h'.1 155 j = h.1 155 j) (h2 : h'.2 = h.2) (h3 : h'.1 155 42 = nI fd2.length) (h4 : lsI (h'.1 176) fd2) : MR tp σ nm K fd2 fl tn h' := by
  obtain ⟨a, b, c, d, f, g, k, m, n⟩ := H
  have e : ∀ q, q ∉ [155, 176] → h'.1 q = h.1 q := fun q h2 => (hs q h2).1
  unfold MR Cache
  rw [e 156 (by decide), e 157 (by decide), e 179 (by decide), e 180 (by decide), e 183 (by decide), e 185 (by decide), e 164 (by decide), e 165 (by decide), e 166 (by decide), h2, hf 2 (by decide), hf 14 (by decide), hf 31 (by decide), hf 51 (by decide), hf 53 (by decide)]
  exact ⟨a, b, c, d, f, ⟨h3, h4⟩, k, m, n⟩
theorem AbOk.fnd {fd2 : List Nat} (hA : AbOk tp σ nm K fd fl tn) (h1 : fd2.length ≤ 13) (h2 : ∀ x ∈ fd2, x < 8) : AbOk tp σ nm K fd2 fl tn := by
  obtain ⟨a, b, c, d, e, f, g⟩ := hA
  exact ⟨a, b, c, h1, e, h2, g⟩
theorem st_likeliest (hI : Inv h) : ∃ v h1 h2, f_X12_likeliest h = some (v, h1) ∧ f_X13_likeliest h1 = some (v, h2) ∧ Inv h2 := by
  obtain ⟨tp, σ, nm, K, fd, fl, tn, hA, hC, hM⟩ := hI
  have M1 := hM.keep (th_Eq 0)
  have hc := hC.2.2.2.2.2.1
  have hm := M1.2.2.2.2.2.2.1
  cases ht : tn with
  | none =>
    rw [ht] at hc hm
    have hc' : h.1 133 0 = 0 := hc
    have hm' : (sI h 155 0 0).1 155 53 = 0 := hm
    refine ⟨-1, h, sI h 155 0 0, ?_, ?_, tp, σ, nm, K, fd, fl, tn, hA, hC.lo hA (th_Lo 0), M1⟩
    · unfold f_X12_likeliest
      rw [if_pos hc']
    · unfold f_X13_likeliest
      rw [lt_s0, if_pos hm']
  | some p =>
    have hp := hA.2.2.2.2.2.2 p ht
    rw [ht] at hc hm
    obtain ⟨c0, c1, c2, c3, c4, c5⟩ := hc
    obtain ⟨m0, m1, m2, m3, m4, m5⟩ := hm
    have pl : p.2.2.2.1 < 9223372036854775808 := by have := hp.2.2.2.1; omega
    by_cases h0 : p.2.2.2.1 = 0
    · refine ⟨lN 0, h, sI h 155 0 0, ?_, ?_, tp, σ, nm, K, fd, fl, tn, hA, hC.lo hA (th_Lo 0), M1⟩
      · unfold f_X12_likeliest
        rw [c0, if_neg (by decide), c4, h0, if_pos (by decide)]
      · unfold f_X13_likeliest
        rw [lt_s0, m0, if_neg (by decide), m4, h0, if_pos (by decide)]
    · have ng : ¬ lg_cmp (lN p.2.2.2.1) 0 ≤ 0 := by
        rw [li_0, lcLE, show (0 : Int64) = lN 0 from rfl]
        exact fun z => absurd ((pk_lLE pl (by decide)).mp z) (by omega)
      have c5 := c5 (by omega)
      have l12 := hp.2.2.2.2.1
      have rc := row_copy (h := h) (d := 140) (s := 134) (n := p.2.2.2.2.length) c5.1 (show _ ≤ 13 by omega) (show _ ≤ 12 from l12) (by decide)
      obtain ⟨g, eg⟩ : ∃ q, q = sI (cI h (134 + 1) 0 (140 + 1) 0 p.2.2.2.2.length) 140 1 (nI p.2.2.2.2.length) := ⟨_, rfl⟩
      have sg : Same [140, 141] h g := by rw [eg]; exact (Same.ofCI (by decide)).tr (Same.ofI (by decide))
      have A2 : AbOk tp σ nm K p.2.2.2.2 fl tn := hA.fnd (by omega) hp.2.2.2.2.2
      have C2 : CR tp σ nm K p.2.2.2.2 fl tn g := hC.fnd hA (fun a z1 z2 z3 z4 => ⟨(sg a (by simp; omega)).1, (sg a (by simp; omega)).2.1⟩) (by rw [(sg 123 (by decide)).1]; exact hC.2.2.2.2.2.2) (by rw [eg, sI_s]) (fun i hi => by
        rw [eg, sI_ne1 (by decide), show (141 : Nat) = 140 + 1 from rfl, cI_at, cpy_0 hi]
        exact c5.2 i hi)
      have Mg : MR tp σ nm K fd fl tn (sI g 155 0 0) := (hM.hi (sg.hi (by decide))).keep (th_Eq 0)
      obtain ⟨g0, eg0⟩ : ∃ q, q = sI g 155 0 0 := ⟨_, rfl⟩
      rw [← eg0] at Mg
      have L0 : Lo g g0 := by rw [eg0]; exact th_Lo 0
      have hm2 := Mg.2.2.2.2.2.2.1
      rw [ht] at hm2
      obtain ⟨n0, n1, n2, n3, n4, n5⟩ := hm2
      have n5 := n5 (by omega)
      obtain ⟨g1, f1, r1, r2, r3, r4⟩ := loop2n (F := F_X13_likeliest_35 (fun h9 => some (h9.2.1 155 52, h9))) (k := fun h9 => some (h9.2.1 155 52, h9)) p.2.2.2.2.length (fun i q => Same [155, 176] g0 q ∧ (∀ j, j ≠ 42 → q.1 155 j = g0.1 155 j) ∧ (q.2 = g0.2 ∧ q.1 155 42 = nI p.2.2.2.2.length) ∧ ∀ j, j < i → q.1 176 j = nI (p.2.2.2.2.getD j 0)) (fun self q ⟨y1, y2, y3, y4⟩ => by
          unfold F_X13_likeliest_35
          rw [y2 51 (by decide), n5.1, if_pos (nI_le (Nat.le_refl _) (by omega))]) (fun self i q hi ⟨y1, y2, y3, y4⟩ => by
          have q8 : q.1 180 i = nI (p.2.2.2.2.getD i 0) := by rw [(y1 180 (by decide)).1]; exact n5.2 i hi
          refine ⟨sI q 176 i (nI (p.2.2.2.2.getD i 0)), ?_, y1.tr (Same.ofI (by decide)), fun j hj => by rw [sI_ne1 (by decide)]; exact y2 j hj, ⟨y3.1, by rw [sI_ne1 (by decide)]; exact y3.2⟩, fun j hj => ?_⟩
          · unfold F_X13_likeliest_35
            rw [y2 51 (by decide), n5.1, if_neg (nI_ge hi (by omega)), if_pos (inb_nI (by omega) (by decide)), if_pos (inb_nI (by omega) (by decide)), lt_s0, nI_clamp (by omega), q8, nI_1]
          · by_cases hj2 : j = i
            · subst hj2
              rw [sI_s]
            · rw [sI_nk1 hj2]
              exact y4 j (by omega)) (sI g0 155 42 (nI p.2.2.2.2.length)) ⟨Same.ofI (by decide), fun j hj => sI_nk1 hj, ⟨rfl, sI_s⟩, fun j hj => by omega⟩ (by omega)
      refine ⟨lN p.2.2.2.1, g, g1, ?_, ?_, tp, σ, nm, K, p.2.2.2.2, fl, tn, A2, C2.lo A2 (L0.tr (r1.lo (by decide))), Mg.fnd r1 r2 r3.1 r3.2 r4⟩
      · unfold f_X12_likeliest
        rw [c0, if_neg (by decide), c4, if_neg ng, rc, bnvS, ← eg, (sg 133 (by decide)).2.1, c4]
      · unfold f_X13_likeliest
        rw [lt_s0, ← eg0, n0, if_neg (by decide), n4, if_neg ng, lt_s0, n5.1, li_0, f1, r3.1, n4]
end TA
