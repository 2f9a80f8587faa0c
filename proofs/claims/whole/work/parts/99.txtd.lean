section TXTD
variable {tp : List Nat} {σ : Nat → Nat} {nm : Nat → List Nat} {K : Im} {fd : List Nat} {fl : Nat} {tn : Option Tn} {h h' : Hp}
/-- a reading of the tape: it is empty, and the fault may be another -/
theorem CR.read {fl2 : Nat} (hA : AbOk tp σ nm K fd fl tn) (H : CR tp σ nm K fd fl tn h) {X : List Nat} (hs : ∀ a, a ∉ X → h'.1 a = h.1 a ∧ h'.2.1 a = h.2.1 a) (hX : X.all (fun q => q == 1 || q == 2 || (scrL.contains q && decide (q ≠ 123))) = true) (h2 : h'.1 2 1 = nI 0) (h1 : h'.1 1 11 = nI fl2) : CR [] σ nm K fd fl2 tn h' := by
  obtain ⟨a, b, c, d, f, g, k⟩ := H
  have nX : ∀ q, q ≠ 1 → q ≠ 2 → (q ∉ scrL ∨ q = 123) → q ∉ X := fun q q1 q2 q3 z => by
    have := List.all_eq_true.mp hX q z
    simp only [Bool.or_eq_true, Bool.and_eq_true, beq_iff_eq, decide_eq_true_eq] at this
    rcases this with (z1 | z1) | z1
    · exact q1 z1
    · exact q2 z1
    · rcases q3 with q3 | q3
      · exact q3 (List.contains_iff_mem.mp z1.1)
      · exact z1.2 q3
  have e : ∀ q, q ≠ 1 → q ≠ 2 → (q ∉ scrL ∨ q = 123) → h'.1 q = h.1 q := fun q q1 q2 q3 => (hs q (nX q q1 q2 q3)).1
  refine ⟨⟨h2, fun i hi => absurd hi (Nat.not_lt_zero _)⟩, ?_, ?_, h1, ?_, ?_, ?_⟩
  · refine b.kept hA.2.1.2.2.1 (fun q z1 z2 => hs q (nX q (by omega) (by omega) (Or.inl ?_)))
    intro z
    have key : ∀ x ∈ scrL, x < 6 ∨ 40 < x := by decide
    have := key q z
    omega
  · intro i hi
    have ci := c i hi
    have hK := hA.2.2.1 i
    cases hk : K i with
    | none =>
      rw [hk] at ci
      show h'.1 112 i = 0
      rw [e 112 (by decide) (by decide) (by decide)]
      exact ci
    | some q =>
      rw [hk] at ci
      show h'.1 112 i = 1 ∧ MatRep h' (42 + 35 * i) q.1 q.2
      rw [e 112 (by decide) (by decide) (by decide)]
      refine ⟨ci.1, ci.2.kept (hK q hi hk).2.2.1 (fun z h1 h2 => hs z (nX z (by omega) (by omega) (Or.inl ?_)))⟩
      intro zz
      have key : ∀ x ∈ scrL, x < 42 ∨ 111 < x := by decide
      have := key z zz
      omega
  · rw [e 140 (by decide) (by decide) (by decide), e 141 (by decide) (by decide) (by decide)]
    exact f
  · rw [e 133 (by decide) (by decide) (by decide), e 134 (by decide) (by decide) (by decide), e 135 (by decide) (by decide) (by decide), (hs 133 (nX 133 (by decide) (by decide) (by decide))).2]
    exact g
  · rw [e 123 (by decide) (by decide) (by decide)]
    exact k
theorem MR.read {fl2 : Nat} (H : MR tp σ nm K fd fl tn h) (hs : Same [155, 163] h h') (hf : MFr h h') (h14 : h'.1 155 14 = nI fl2) : MR tp σ nm K fd fl2 tn h' := by
  obtain ⟨a, b, c, d, f, k, g, m, n⟩ := H
  have e : ∀ q, q ∉ [155, 163] → h'.1 q = h.1 q := fun q h2 => (hs q h2).1
  have l : ∀ q, q ∉ [155, 163] → h'.2.1 q = h.2.1 q := fun q h2 => (hs q h2).2.1
  refine ⟨?_, ?_, ?_, ?_, h14, ?_, ?_, ?_, ?_⟩
  · rw [hf.1 2 (by decide), e 156 (by decide)]; exact a
  · rw [e 157 (by decide)]; exact b
  · rw [l 159 (by decide)]; exact c
  · rw [e 185 (by decide), e 183 (by decide), l 184 (by decide)]; exact d
  · rw [hf.1 42 (by decide), e 176 (by decide)]; exact k
  · rw [hf.1 53 (by decide), hf.1 51 (by decide), hf.2 52 (by decide), e 179 (by decide), e 180 (by decide)]; exact g
  · rw [l 160 (by decide)]; exact m
  · unfold Cache
    rw [hf.1 31 (by decide), e 164 (by decide), e 165 (by decide), e 166 (by decide)]; exact n
theorem AbOk.flt {fl2 : Nat} (hA : AbOk tp σ nm K fd fl tn) (h1 : fl2 ≤ 4) : AbOk tp σ nm K fd fl2 tn := by
  obtain ⟨a, b, c, d, e, f, g⟩ := hA
  exact ⟨a, b, c, d, h1, f, g⟩
/-- the class begins to read -/
theorem c_begin6 {t L : Nat} (T : Tp tp) (hL : L ≤ 1000) (h2 : h.1 2 1 = nI tp.length) (h3 : lsI (h.1 3) tp) : ∃ h', f_X6_begin 2 t (nI L) h = some h' ∧ Same [4, 5] h h' ∧ h'.2.1 = h.2.1 ∧ CT1 tp L (tkB tp L 0) h' ∧ h'.2.2 4 1 = t ∧ h'.1 4 4 = nI 0 := by
  obtain ⟨g, hg⟩ : ∃ g, g = sI (sI (sR (sI (sI (sR h 4 1 t) 4 4 (nI 0)) 4 5 (nI 0)) 5 0 2) 5 1 (nI L)) 5 2 (nI 0) := ⟨_, rfl⟩
  have S1 : Same [4, 5] h g := by
    rw [hg]
    exact (((((Same.ofR (by decide)).tr (Same.ofI (by decide))).tr (Same.ofI (by decide))).tr (Same.ofR (by decide))).tr (Same.ofI (by decide))).tr (Same.ofI (by decide))
  have B : CTk tp L 0 g := by
    refine ⟨?_, ?_, ?_, ?_, ?_⟩
    · rw [hg]
      show (sR (sI (sI (sR h 4 1 t) 4 4 (nI 0)) 4 5 (nI 0)) 5 0 2).2.2 5 0 = 2
      exact sR_s
    · rw [hg, sI_nk1 (by decide)]; exact sI_s
    · rw [hg]; exact sI_s
    · rw [(S1 2 (by decide)).1]; exact h2
    · rw [(S1 3 (by decide)).1]; exact h3
  obtain ⟨h', e, s1, s2, s3, s4, s5, s6, s7, s8⟩ := c_advance (p := 0) T hL (by omega) B
  refine ⟨h', ?_, S1.tr (s1.mono (fun a h1 => by simp only [List.mem_cons, List.not_mem_nil, or_false] at h1 ⊢; omega)), ?_, ⟨s3, s4, s5, s6, s7, s8⟩, ?_, ?_⟩
  · unfold f_X6_begin f_X9_begin
    rw [lt_s1, li_0, lt_s1, lt_s1, lt_s1, lt_s1, lt_s1, ← hg, e, bnvS, bnvS]
  · rw [s2, hg]; rfl
  · rw [(s1 4 (by decide)).2.2, hg]
    show (sR (sI (sI (sR h 4 1 t) 4 4 (nI 0)) 4 5 (nI 0)) 5 0 2).2.2 4 1 = t
    rw [sR_ne1 (by decide)]
    show (sR h 4 1 t).2.2 4 1 = t
    exact sR_s
  · rw [(s1 4 (by decide)).1, hg, sI_ne1 (by decide), sI_ne1 (by decide), sR1, sI_nk1 (by decide)]
    exact sI_s
theorem st_text (hI : Inv h) : ∃ v h1 h2, f_X12_text h = some (v, h1) ∧ f_X13_text h1 = some (v, h2) ∧ Inv h2 := by
  obtain ⟨tp, σ, nm, K, fd, fl, tn, hA, hC, hM⟩ := hI
  have H := hA.2.1.1
  have T : Tp tp := hA.1
  have h8 := H.1.2.2.1
  -- the class
  obtain ⟨g1, E1, s1, s2, s3, s4, s5⟩ := c_begin6 (h := h) (t := 7) (L := 200) T (by omega) hC.1.1 hC.1.2
  have S2 : Same [4, 5, 153, 154] h (sI g1 153 1 (nI 0)) := (s1.mono (fun a h1 => by simp only [List.mem_cons, List.not_mem_nil, or_false] at h1 ⊢; omega)).tr (Same.ofI (by decide))
  have S1' : Same [153] g1 (sI g1 153 1 (nI 0)) := Same.ofI (by decide)
  obtain ⟨g3, u1, u2, u3⟩ := c_textL T H 24 (tkB tp 200 0) [] (sI g1 153 1 (nI 0)) N0 rfl (by have := N0_big; omega) (tkB_le tp 200 0).1 (s3.same S1' (by decide)) (hC.2.1.1.kept (fun a h1 h2 => by
    have := S2 a (by simp only [List.mem_cons, List.not_mem_nil, or_false]; omega)
    exact ⟨this.1, this.2.1⟩)) s4 sI_s (fun j hj => absurd hj (Nat.not_lt_zero _)) (fun x hx => by cases hx) (by rw [sI_ne1 (by decide)]; exact s5)
  have S3 : Same [4, 5, 153, 154] h g3 := S2.tr u1
  have EC : f_X6_readText 2 7 153 h = itr2 (F_X6_readText_17 7 153 (fun h14 => some ((-1) - (h14.1 4 5), h14)) (fun h15 => B_X6_readText_95 153 h15)) N0 (nI ([] : List Nat).length) (sI g1 153 1 (nI 0)) := by
    unfold f_X6_readText
    rw [show (200 : Int32) = nI 200 from rfl, E1, bnvS, li_0, lt_s1]
    rfl
  -- the reference, from a heap whose upper cells are h's
  have mref : ∀ p : Hp, Hi h p → ∃ g4, mTx (txR tp 200 nm (σ 2) 25 (tkB tp 200 0) []) (σ 2) (fun v28 h27 => bnv (f_X13_keep 163 v28 h27) fun h29 => some (v28, h29)) (f_X13_text p) g4 ∧ (∀ fl2, g4.1 155 14 = nI fl2 → MR [] σ nm K fd fl2 tn g4) ∧ Lo p g4 := fun p hp => by
    have M1 := (hM.hi hp).keep (th_Eq 0)
    obtain ⟨p2, e2, M2, t2, t2', r3, r4, r5, r6, r7⟩ := m_taken 200 M1
    have M3 : MR [] σ nm K fd 0 tn (sI p2 155 14 (nI 0)) := M2.read (Same.ofI (by decide)) ⟨fun j hj => sI_nk1 (fun z => by subst z; revert hj; decide), fun _ _ => rfl⟩ sI_s
    obtain ⟨p4, e4, v1, v2, v3, v4⟩ := m_nx0 (h := sI p2 155 14 (nI 0)) (tp := tp) (L := 200) (p := 0) T (by omega) (Nat.zero_le _) ⟨by rw [sI_nk1 (by decide)]; exact r3, by rw [sI_nk1 (by decide)]; exact r4, by rw [sI_nk1 (by decide)]; exact r5, by rw [sI_ne1' (by decide)]; exact r6⟩
    have S4 : Same [155, 163] (sI p2 155 14 (nI 0)) p4 := v1.mono (fun a h1 => by simp only [List.mem_cons, List.not_mem_nil, or_false] at h1 ⊢; omega)
    have h14 : p4.1 155 14 = nI 0 := by rw [v3]; exact sI_s
    have M4 := M3.read S4 v2 h14
    obtain ⟨p5, w1, w2, w3⟩ := m_textL T H (fun v28 h27 => bnv (f_X13_keep 163 v28 h27) fun h29 => some (v28, h29)) 24 (tkB tp 200 0) [] p4 N0 rfl (by have := N0_big; omega) v4 M4.2.1 M4.2.2.1 M4.2.2.2.2.2.2.2.1 (fun j hj => absurd hj (Nat.not_lt_zero _)) (fun x hx => by cases hx) h14
    have ER : f_X13_text p = itr2 (F_X13_text_23 (fun h25 => some ((-1) - (h25.1 155 15), h25)) (fun h26 => some ((-1) - (h26.1 155 15), h26)) (fun v28 h27 => bnv (f_X13_keep 163 v28 h27) fun h29 => some (v28, h29))) N0 (nI ([] : List Nat).length) p4 := by
      unfold f_X13_text
      rw [lt_s1, e2, bnvS, li_0, lt_s1, e4, bnvS]
      rfl
    refine ⟨p5, by rw [ER]; exact w3, fun fl2 hf => M4.read w1 w2 hf, ?_⟩
    exact (th_Lo 0).tr ((t2.lo (by decide)).tr (((Same.ofI (X := [155]) (by decide)).lo (by decide)).tr ((v1.lo (by decide)).tr (w1.lo (by decide)))))
  have cls : ∀ v, f_X6_readText 2 7 153 h = some (v, g3) → f_X12_text h = (if v < 0 then some (v, sI (sI g3 2 1 0) 1 11 (g3.1 4 4)) else bnv (f_X7_copyFrom 18 153 (sI (sI g3 2 1 0) 1 11 (g3.1 4 4))) fun h6 => some (v, h6)) := fun v hv => by
    unfold f_X12_text
    rw [hv, bndS, lt_s1, lt_s1]
    rfl
  have CC : ∀ fl2, g3.1 4 4 = nI fl2 → CR [] σ nm K fd fl2 tn (sI (sI g3 2 1 0) 1 11 (g3.1 4 4)) := fun fl2 hf => by
    have SS : Same [1, 2, 4, 5, 153, 154] h (sI (sI g3 2 1 0) 1 11 (g3.1 4 4)) := ((S3.mono (fun a h1 => by simp only [List.mem_cons, List.not_mem_nil, or_false] at h1 ⊢; omega)).tr (Same.ofI (by decide))).tr (Same.ofI (by decide))
    exact hC.read hA (fun a ha => ⟨(SS a ha).1, (SS a ha).2.1⟩) (by decide) (by rw [sI_ne1 (by decide)]; exact sI_s) (by rw [sI_s]; exact hf)
  have hi3 : Hi h (sI (sI g3 2 1 0) 1 11 (g3.1 4 4)) := (S3.hi (by decide)).tr (((Same.ofI (X := [2]) (by decide)).hi (by decide)).tr ((Same.ofI (X := [1]) (by decide)).hi (by decide)))
  rw [← EC] at u3
  cases ho : txR tp 200 nm (σ 2) 25 (tkB tp 200 0) [] with
  | inl q =>
    rw [ho] at u3 mref
    obtain ⟨a1, a2, a3, a4⟩ := u3
    have neg : (-1 : Int32) - nI q.2 < 0 := by
      have e : (-1 : Int32) - nI q.2 = mI (1 + q.2) := by
        unfold mI
        rw [← nI_add, show nI 1 = (1 : Int32) from rfl, Int32.neg_add, Int32.sub_eq_add_neg]
      rw [e]
      have := ltMT (a := 1 + q.2) (b := 0) (by omega) (by omega) (by omega)
      exact of_eq_true this
    obtain ⟨g4, ⟨b1, b2⟩, b3, b4⟩ := mref _ hi3
    have A2 : AbOk [] σ nm K fd q.1 tn := hA.empty.flt a4
    refine ⟨_, _, g4, ?_, b1, [], σ, nm, K, fd, q.1, tn, A2, (CC q.1 a2).lo A2 b4, b3 q.1 b2⟩
    rw [cls _ a1, if_pos neg]
  | inr l =>
    rw [ho] at u3 mref
    obtain ⟨a1, a2, a3, a4, a5, a6⟩ := u3
    obtain ⟨g5, hg5⟩ : ∃ g5, g5 = sI (sI g3 2 1 0) 1 11 (g3.1 4 4) := ⟨_, rfl⟩
    have C5 : CR [] σ nm K fd 0 tn g5 := by rw [hg5]; exact CC 0 a6
    have A5 : AbOk [] σ nm K fd 0 tn := hA.empty.flt (by omega)
    have rc := row_copy (d := 18) (s := 153) (n := l.length) (h := g5) (by rw [hg5, sI_ne1 (by decide), sI_ne1 (by decide)]; exact a2) (show _ ≤ 24 from a4) (show _ ≤ 24 from a4) (by decide)
    obtain ⟨g6, eg6⟩ : ∃ q, q = sI (cI g5 (153 + 1) 0 (18 + 1) 0 l.length) 18 1 (nI l.length) := ⟨_, rfl⟩
    have s6 : Same [18, 19] g5 g6 := by rw [eg6]; exact (Same.ofCI (by decide)).tr (Same.ofI (by decide))
    have C6 : CR [] (txS σ l) nm K fd 0 tn g6 := C5.text A5 (fun k hk => txS_out a4 hk) s6 (by decide) (by rw [eg6, sI_s, txS_n]) (fun k hk => by
      rw [txS_n] at hk
      rw [eg6, sI_ne1 (by decide), show (19 : Nat) = 18 + 1 from rfl, cI_at, pk_cpy_in (by omega) (by omega), show 0 + (k - 0) = k by omega, txS_at hk, hg5, sI_ne1 (by decide), sI_ne1 (by decide)]
      exact a3 k hk)
    have A6 := A5.text a4 a5
    obtain ⟨g7, ⟨b1, b2, b3, b4, b5⟩, b6, b7⟩ := mref g6 ((by rw [hg5]; exact hi3 : Hi h g5).tr (s6.hi (by decide)))
    have M7 := b6 0 b5
    obtain ⟨g8, e8, s8, m8⟩ := m_keep (l := l) M7.2.1 a4 b2
    refine ⟨nI l.length, g6, g8, ?_, ?_, [], txS σ l, nm, K, fd, 0, tn, A6, C6.lo A6 (b7.tr (s8.lo (by decide))), M7.sig (fun k hk => txS_out a4 (by omega)) s8 m8⟩
    · rw [cls _ a1, if_neg (show ¬ nI l.length < 0 from nI_nlt (b := 0) (by omega) (by omega)), ← hg5, rc, bnvS, ← eg6]
    · rw [b1]
      show bnv (f_X13_keep 163 (nI l.length) g7) _ = _
      rw [e8, bnvS]
end TXTD
