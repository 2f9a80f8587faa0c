section UNGM
variable {tp : List Nat} {ρ ρ' σ : Nat → Nat} {nS nK nm nS' nK' nm' : Nat → List Nat} {h h' gc gc1 gm : Hp} {s ed ck : Nat} {rc rm : Option (Int32 × Hp)}
theorem SC.of (C : SC tp s ρ nS nK nm ed ck h) {X : List Nat} (q : Same X h h') (hX : 2 ∉ X ∧ 3 ∉ X ∧ 5 ∉ X ∧ 4 ∉ X) (R : RgC h' 142 ρ' nS' nK' nm') : SC tp s ρ' nS' nK' nm' ed ck h' := by
  obtain ⟨c1, c2, c3, c4, c5, c6⟩ := C
  exact ⟨c1.same q ⟨hX.1, hX.2.1, hX.2.2.1⟩, R, by rw [(q 4 hX.2.2.2).2.2]; exact c3, by rw [(q 4 hX.2.2.2).1]; exact c4, by rw [(q 4 hX.2.2.2).1]; exact c5, by rw [(q 4 hX.2.2.2).1]; exact c6⟩
theorem SM.of (M : SM tp s ρ nS nK nm ed ck h) {X : List Nat} (q : Same X h h') (hX : 155 ∉ X ∧ 156 ∉ X ∧ 160 ∉ X) (R : RgM h' ρ' nS' nK' nm') : SM tp s ρ' nS' nK' nm' ed ck h' := by
  obtain ⟨c1, c2, c3, c4, c5, c6⟩ := M
  exact ⟨c1.same q ⟨hX.1, hX.2.1⟩, R, by rw [(q 160 hX.2.2).2.1]; exact c3, by rw [(q 155 hX.1).1]; exact c4, by rw [(q 155 hX.1).1]; exact c5, by rw [(q 155 hX.1).1]; exact c6⟩
theorem SC.adv5 (T : Tp tp) (hs : s ≤ tp.length) (C : SC tp s ρ nS nK nm ed ck h) : ∃ h', f_X9_advance h = some h' ∧ Same [5] h h' ∧ SC tp (tkB tp 900 (tkX tp 900 s)) ρ nS nK nm ed ck h' := by
  obtain ⟨c1, c2, c3, c4, c5, c6⟩ := C
  obtain ⟨h', e, s1, s2, s3⟩ := c_adv (L := 900) T (by omega) hs c1
  refine ⟨h', e, s1, s3, c2.same s1 (fun a h1 h2 => by simp only [List.mem_cons, List.not_mem_nil, or_false]; omega), ?_, ?_, ?_, ?_⟩
  · rw [(s1 4 (by decide)).2.2]; exact c3
  · rw [(s1 4 (by decide)).1]; exact c4
  · rw [(s1 4 (by decide)).1]; exact c5
  · rw [(s1 4 (by decide)).1]; exact c6
theorem unM.ofF (a : Same [155] h h') (b : MFr h h') : unM h h' := ⟨a.mono (fun a h1 => by simp only [List.mem_cons, List.not_mem_nil, or_false] at h1 ⊢; omega), fun j hj => b.1 j (fun z => hj (by simp only [List.mem_cons, List.not_mem_nil, or_false] at z ⊢; omega)), b.2, fun j _ => by rw [(a 159 (by decide)).2.1]⟩
theorem SM.nx5 (T : Tp tp) (M : SM tp s ρ nS nK nm ed ck h) : ∃ h', f_X13_next h = some h' ∧ Same [155] h h' ∧ MFr h h' ∧ SM tp (tkB tp 900 (tkX tp 900 s)) ρ nS nK nm ed ck h' := by
  obtain ⟨c1, c2, c3, c4, c5, c6⟩ := M
  obtain ⟨h', e, s1, s2, s4, s3⟩ := m_nx (L := 900) T (by omega) c1
  refine ⟨h', e, s1, s2, s3, c2.same s1 (by decide), ?_, ?_, ?_, ?_⟩
  · rw [(s1 160 (by decide)).2.1]; exact c3
  · rw [s2.1 19 (by decide)]; exact c4
  · rw [s2.1 20 (by decide)]; exact c5
  · rw [s4]; exact c6
theorem unC5 (a : Same [5] h h') : Same unC h h' := a.mono (fun a h1 => by simp only [List.mem_cons, List.not_mem_nil, or_false] at h1; subst h1; decide)
theorem bad2.bnd {Kc Km : Int32 → Hp → Option (Int32 × Hp)} (b : bad2 gc gm rc rm) (k1 : ∀ h, Kc 0 h = some (0, h)) (k2 : ∀ h, Km 0 h = some (0, h)) : bad2 gc gm (bnd rc Kc) (bnd rm Km) := by
  obtain ⟨k, q, gc', gm', a1, a2, r⟩ := b
  exact ⟨k, q, gc', gm', by rw [a1, bndS]; exact k1 _, by rw [a2, bndS]; exact k2 _, r⟩
theorem good2.tr {gc1 gm1 : Hp} {s1 : Nat} (b : good2 tp s1 gc1 gm1 rc rm) (hs : s ≤ s1) (k18 : gm1.1 155 18 = gm.1 155 18) (h1 : Same unC gc gc1) (h2 : unM gm gm1) : good2 tp s gc gm rc rm := by
  obtain ⟨s', ρ, nS, nK, nm, ed, ck, gc', gm', a1, a2, a3, a4, a5, a6, a7, a8, a9⟩ := b
  exact ⟨s', ρ, nS, nK, nm, ed, ck, gc', gm', a1, a2, by omega, a4, a5, a6, a7.trans k18, h1.tr a8, h2.tr a9⟩
theorem RgC.name {x : Nat} {v : Int32} (R : RgC h 142 ρ nS nK nm) (f0 : ∀ i, i < ρ 0 → i ≠ x) (f1 : ∀ i, i < ρ 1 → 5 + i ≠ x) (f2 : ∀ w, w < ρ 2 → 8 + w ≠ x) : RgC (sI h 143 x v) 142 ρ nS nK nm := by
  obtain ⟨a, ⟨b1, b2, b3⟩, c, d, e, f, g⟩ := R
  have i0 : ∀ c, c ≠ 143 → (sI h 143 x v).1 c = h.1 c := fun c hc => funext fun _ => sI_ne1 hc
  unfold RgC
  rw [i0 142 (by decide), i0 (142 + 2) (by decide), i0 (142 + 3) (by decide), i0 (142 + 5) (by decide), i0 (142 + 6) (by decide), i0 (142 + 7) (by decide), i0 (142 + 8) (by decide), i0 (142 + 9) (by decide)]
  refine ⟨a, ⟨fun i hi => ?_, fun i hi => ?_, fun w hw => ?_⟩, c, d, e, f, g⟩
  · rw [sI_nk1 (f0 i hi)]; exact b1 i hi
  · rw [sI_nk1 (f1 i hi)]; exact b2 i hi
  · rw [sI_nk1 (f2 w hw)]; exact b3 w hw
theorem RgM.name {x : Nat} {v : Int64} (R : RgM h ρ nS nK nm) (f0 : ∀ i, i < ρ 0 → i ≠ x) (f1 : ∀ i, i < ρ 1 → 5 + i ≠ x) (f2 : ∀ w, w < ρ 2 → 8 + w ≠ x) : RgM (sL h 159 (16 + x) v) ρ nS nK nm := by
  obtain ⟨a, b1, b2, b3⟩ := R
  refine ⟨a, fun i hi => ?_, fun i hi => ?_, fun w hw => ?_⟩
  · have := f0 i hi
    rw [sL_nk1 (by omega)]; exact b1 i hi
  · have := f1 i hi
    rw [sL_nk1 (by omega)]; exact b2 i hi
  · have := f2 w hw
    rw [sL_nk1 (by omega)]; exact b3 w hw
/-- a new NAME, for both -/
theorem new2 {x : Nat} (hx : x < 16) (hs : s ≤ 900) (f0 : ∀ i, i < ρ 0 → i ≠ x) (f1 : ∀ i, i < ρ 1 → 5 + i ≠ x) (f2 : ∀ w, w < ρ 2 → 8 + w ≠ x) (O : SO tp s ρ nS nK nm ed ck) (C : SC tp s ρ nS nK nm ed ck gc) (M : SM tp s ρ nS nK nm ed ck gm) : ∃ gm1, f_X13_next gm = some gm1 ∧ (∀ k, k < 437 → gm1.1 158 k = nI (ρ k)) ∧ (bad2 gc gm (f_X6_readNewName (nI x) gc) (f_X13_fresh (nI (16 + x)) gm1) ∨ ∃ s' l gc' gm', f_X6_readNewName (nI x) gc = some (1, gc') ∧ f_X13_fresh (nI (16 + x)) gm1 = some (1, gm') ∧ s ≤ s' ∧ s' ≤ 900 ∧ okNm l ∧ SO tp s' ρ nS nK nm ed ck ∧ SC tp s' ρ nS nK nm ed ck gc' ∧ SM tp s' ρ nS nK nm ed ck gm' ∧ gc'.1 143 x = nI (nmC l) ∧ gm'.2.1 159 (16 + x) = lN (nmM l) ∧ gm'.1 155 18 = gm.1 155 18 ∧ Same unC gc gc' ∧ unM gm gm') := by
  obtain ⟨gc1, gm1, a1, b1, O1, C1, M1, a2, b2, b3⟩ := both_nx O C M
  have g1 := tkB_ge (tp := tp) (L := 900) (s := s) (by have := O.2.2.1; omega)
  obtain ⟨s1, hs1⟩ : ∃ s1, s1 = tkB tp 900 (tkX tp 900 s) := ⟨_, rfl⟩
  rw [← hs1] at C1 M1 O1 g1
  have s19 : s1 ≤ 900 := by rw [hs1]; exact (tkB_le tp 900 _).2
  refine ⟨gm1, b1, M1.2.1.1, ?_⟩
  rw [c_newName O1 a1 C1 hx, m_freshT O1 M1 (by omega)]
  cases hn : isNm tp 900 s1
  · rw [if_pos rfl, if_pos rfl]
    exact Or.inl ((bad_here O1.s1000 (by omega)).tr a2 b2)
  · rw [if_neg (show ¬ true = false by decide), if_neg (show ¬ true = false by decide)]
    by_cases ho : oldB tp s1 ρ nS nK nm = true
    · rw [if_pos ho, if_pos ho]
      exact Or.inl ((bad_here O1.s1000 (by omega)).tr a2 b2)
    · rw [if_neg ho, if_neg ho]
      have Cx : SC tp s1 ρ nS nK nm ed ck (sI gc1 143 x (nI (nmC (nmT tp s1)))) := C1.of (Same.ofI (X := [143]) (by decide)) (by decide) (C1.2.1.name f0 f1 f2)
      have Mx : SM tp s1 ρ nS nK nm ed ck (sL gm1 159 (16 + x) (lN (nmM (nmT tp s1)))) := M1.of (Same.ofL (X := [159]) (by decide)) (by decide) (M1.2.1.name f0 f1 f2)
      obtain ⟨gc2, a3, a4, C2⟩ := Cx.adv5 O.1 O1.2.2.1
      obtain ⟨gm2, b4, b5, b6, M2⟩ := Mx.nx5 O.1
      have g2 := tkB_ge (tp := tp) (L := 900) (s := s1) (by have := O1.2.2.1; omega)
      rw [a3, b4, bnvS, bnvS]
      refine Or.inr ⟨_, nmT tp s1, gc2, gm2, rfl, rfl, by omega, (tkB_le tp 900 _).2, nmT_ok (tkQ_K (isNm_1 hn)), tkB_ok O.1 O1, C2, M2, ?_, ?_, ?_, ?_, ?_⟩
      · rw [(a4 143 (by decide)).1]; exact sI_s
      · rw [(b5 159 (by decide)).2.1]; exact sL_s
      · rw [b6.1 18 (by decide)]
        exact b3 18 (by decide)
      · exact a2.tr ((Same.ofI (by decide)).tr (unC5 a4))
      · exact b2.tr ((unM.ofL159 (by omega)).tr (unM.ofF b5 b6))
/-- the reference's piece for a MARK -/
def mMark (h4 : Hp) : Option (Int32 × Hp) :=
  if (h4.1 158 ((1 : Int32).toNatClampNeg)) = 3 then
    bnd (f_X13_bad 4 h4) fun v47 h46 =>
    if isZ v47 = true then
    some (v47, h46)
    else none
  else
    bnv (f_X13_next h4) fun h41 =>
    bnd (f_X13_fresh (21 + (h41.1 158 ((1 : Int32).toNatClampNeg))) h41) fun v43 h42 =>
    (if v43 = 0 then
      some (0, h42)
    else
      lt (sI h42 158 ((1 : Int32).toNatClampNeg) ((h42.1 158 ((1 : Int32).toNatClampNeg)) + 1)) fun h45 =>
      some (1, h45))
theorem rd_mark (hs : s ≤ 900) (O : SO tp s ρ nS nK nm ed ck) (C : SC tp s ρ nS nK nm ed ck gc) (M : SM tp s ρ nS nK nm ed ck gm) : bad2 gc gm (f_X6_readMark gc) (mMark gm) ∨ good2 tp s gc gm (f_X6_readMark gc) (mMark gm) := by
  obtain ⟨h5, h3, h8, -⟩ := O.2.1.1.1
  have m1 : gm.1 158 1 = nI (ρ 1) := M.2.1.1 1 (by omega)
  have c1 : gc.1 142 1 = nI (ρ 1) := C.2.1.1.2.1
  have i8 : isO 8 142 = true := by decide
  unfold f_X6_readMark mMark
  rw [C.2.2.1, lt_s1, if_pos i8, c1, show (1 : Int32).toNatClampNeg = 1 from rfl, m1]
  by_cases hk : ρ 1 < 3
  · obtain ⟨gm1, e1, e2, r⟩ := new2 (x := 5 + ρ 1) (by omega) hs (fun i hi => by omega) (fun i hi => by omega) (fun w hw => by omega) O C M
    rw [if_pos (show nI (ρ 1) < 3 from nI_lt (b := 3) hk (by omega)), if_neg (show ¬ nI (ρ 1) = 3 from fun z => by have := (nI_eq (b := 3) (by omega) (by omega)).mp z; omega), lt_s1, if_pos i8, c1, e1, bnvS, e2 1 (by omega), show (5 : Int32) + nI (ρ 1) = nI (5 + ρ 1) by rw [li_5, nI_add], show (21 : Int32) + nI (ρ 1) = nI (16 + (5 + ρ 1)) by rw [show (21 : Int32) = nI 21 from rfl, nI_add, show 21 + ρ 1 = 16 + (5 + ρ 1) by omega]]
    rcases r with r | ⟨s2, l, gc2, gm2, a1, a2, a3, a4, a5, O2, C2, M2, n1, n2, k18, u1, u2⟩
    · exact Or.inl (r.bnd (fun _ => if_pos rfl) (fun _ => if_pos rfl))
    · rw [a1, a2, bndS, bndS, if_neg (show ¬ (1 : Int32) = 0 by decide), if_neg (show ¬ (1 : Int32) = 0 by decide), C2.2.2.1, lt_s1, if_pos i8, C2.2.1.1.2.1, M2.2.1.1 1 (by omega), nI_1, lt_s1, lt_s1]
      refine Or.inr ⟨s2, mrS ρ, nS, mrN ρ nK l, nm, ed, ck, _, _, rfl, rfl, a3, ⟨O2.1, O2.2.1.mark hk a5, O2.2.2⟩, ?_, ?_, ?_, u1.tr (Same.ofI (by decide)), u2.tr unM.ofI158⟩
      · exact C2.of (Same.ofI (X := [142]) (by decide)) (by decide) (C2.2.1.mark hk h5 h8 (Same.ofI (by decide)) sI_s (fun j hj => sI_nk1 hj) rfl (by rw [sI_ne1 (by decide)]; exact n1) (fun j _ => sI_ne1 (by decide)))
      · exact M2.of (Same.ofI (X := [158]) (by decide)) (by decide) (M2.2.1.mark hk h5 sI_s (fun j hj => sI_nk1 hj) (by show gm2.2.1 159 (21 + ρ 1) = _; rw [show 21 + ρ 1 = 16 + (5 + ρ 1) by omega]; exact n2) (fun _ _ => rfl))
      · rw [sI_ne1 (by decide)]; exact k18
  · have e3 : ρ 1 = 3 := by omega
    rw [if_neg (show ¬ nI (ρ 1) < 3 from nI_nlt (b := 3) (by omega) (by omega)), if_pos (show nI (ρ 1) = 3 by rw [e3]; rfl), show f_X6_refuse 4 gc = some (0, gfF gc 4 s) from c_refuse (k := 4) C.1, show f_X13_bad 4 gm = some (0, mfF gm 4 s) from m_badT (k := 4) M.1, bndS, bndS, if_pos (show isZ 0 = true by decide), if_pos (show isZ 0 = true by decide)]
    exact Or.inl (bad_here O.s1000 (by omega))
end UNGM
