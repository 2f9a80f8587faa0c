section TJ
variable {tp : List Nat} {σ τ : Nat → Nat} {nm nm2 : Nat → List Nat} {K : Im} {fd : List Nat} {fl : Nat} {tn : Option Tn} {h h' : Hp}
theorem Hi.of {X : List Nat} (s : Same X h h') (hX : X.all (fun q => decide (q < 155)) = true) : Hi h h' := s.hi hX
/-- find and verse, of the class -/
theorem c_fwb (x2 : Int32) {kb : Option Nat} (hk : ∀ q, kb = some q → q ≤ 54) (hA : AbOk tp σ nm K fd fl tn) (hC : CR tp σ nm K fd fl tn h) : ∃ v h1 fd2, f_X12_findWithBeats (kbI kb) x2 h = some (v, h1) ∧ CR [] σ nm K fd2 fl tn h1 ∧ Hi h h1 ∧ AbOk [] σ nm K fd2 fl tn ∧ ((¬ (okG σ tp ∧ ∃ m, 1 ≤ m ∧ m ≤ 6 ∧ x2 = nI m) ∧ v = -2 ∧ fd2 = fd) ∨ ∃ m, okG σ tp ∧ 1 ≤ m ∧ m ≤ 6 ∧ x2 = nI m ∧ ((∃ n k, isSh σ (σ 3) (σ 4) (fun b => tp.getD b 0) kb m n k ∧ v = nI n ∧ fd2 = dig (σ 2) n k) ∨ (noSh σ (σ 3) (σ 4) (fun b => tp.getD b 0) kb m ∧ v = -1 ∧ fd2 = fd))) := by
  have H := hA.2.1.1
  have h8 := H.1.2.2.1
  obtain ⟨-, -, -, e3, e3', e4, e4'⟩ := H.1
  obtain ⟨h1, hg, C1, s1⟩ := c_goals hA hC
  rcases hg with ⟨ok, f1, g1⟩ | ⟨nk, f1⟩
  · by_cases hx : ∃ m, 1 ≤ m ∧ m ≤ 6 ∧ x2 = nI m
    · obtain ⟨m, m1, m6, rfl⟩ := hx
      obtain ⟨h6, eh6⟩ : ∃ q, q = sI h1 123 8 (kbI kb) := ⟨_, rfl⟩
      have s6 : Same [123] h1 h6 := by rw [eh6]; exact Same.ofI (by decide)
      have T6 : TgRep h6 7 σ nm := C1.2.1.1.kept (fun q z1 z2 => ⟨(s6 q (by simp; omega)).1, (s6 q (by simp; omega)).2.1⟩)
      obtain ⟨h7, s7, k7, o7⟩ := c_seekShortest (h := h6) (x := 9) (e := σ 3) (r := σ 4) (most := m) (g := fun b => tp.getD b 0) (kb := kb) T6 H (by omega) T6.1.2.2.2.1 T6.1.2.2.2.2 (by omega) (by omega) (by omega) (fun b hb => by have := ok.2 b (by rw [ok.1.1]; omega); show tp.getD b 0 ≤ 10; omega) (fun q hq => by have := hk q hq; omega) m6 (fun b hb => by rw [(s6 127 (by decide)).1]; exact g1 b hb) (by rw [eh6, sI_s])
      obtain ⟨h9, eh9⟩ : ∃ q, q = sI h7 123 8 (-1) := ⟨_, rfl⟩
      have s9 : Same [122, 123, 124, 125, 126, 128, 129] h1 h9 := by
        rw [eh9]
        exact ((s6.mono (fun q hq => by simp only [List.mem_cons, List.not_mem_nil, or_false] at hq ⊢; omega)).tr s7).tr (Same.ofI (by decide))
      have k9 : h9.1 123 8 = -1 := by rw [eh9, sI_s]
      have head : ∀ v8, f_X2_seekShortest 7 9 (nI m) h6 = some (v8, h7) → f_X12_findWithBeats (kbI kb) (nI m) h = (if v8 ≤ 0 then some (v8, h9) else bnv (f_X7_copyFrom 140 128 h9) fun h14 => some (v8, h14)) := fun v8 e8 => by
        unfold f_X12_findWithBeats f_X2_wantBeats
        rw [f1, bndS, if_neg (by decide), if_neg (show ¬ nI m < (1 : Int32) from nI_nlt (b := 1) m1 (by omega)), if_pos (show nI m ≤ (6 : Int32) from nI_le (b := 6) m6 (by decide)), lt_s0, bnvS, ← eh6, e8, bndS, lt_s0, bnvS, ← eh9]
        rfl
      rcases o7 with ⟨n, k, i1, f7, r1, r2⟩ | ⟨no, f7⟩
      · have n6 : n ≤ 6 := by have := i1.2.1; omega
        have n1 : 1 ≤ n := i1.1
        have r1' : h9.1 128 1 = nI n := by rw [eh9, sI_ne1 (by decide)]; exact r1
        have rc := row_copy (h := h9) (d := 140) (s := 128) (n := n) r1' (show _ ≤ 13 by omega) (show _ ≤ 13 by omega) (by decide)
        obtain ⟨h14, eh14⟩ : ∃ q, q = sI (cI h9 (128 + 1) 0 (140 + 1) 0 n) 140 1 (nI n) := ⟨_, rfl⟩
        have s14 : Same [140, 141] h9 h14 := by rw [eh14]; exact (Same.ofCI (by decide)).tr (Same.ofI (by decide))
        have sS0 : 0 < σ 2 := by have := ok.1.2; omega
        have A2 : AbOk [] σ nm K (dig (σ 2) n k) fl tn := hA.empty.fnd (by rw [dig_len]; omega) (fun x hx => by have := dig_lt sS0 n k x hx; omega)
        have s14' : Same [122, 123, 124, 125, 126, 128, 129, 140, 141] h1 h14 := (s9.mono (fun q hq => by simp only [List.mem_cons, List.not_mem_nil, or_false] at hq ⊢; omega)).tr (s14.mono (fun q hq => by simp only [List.mem_cons, List.not_mem_nil, or_false] at hq ⊢; omega))
        refine ⟨nI n, h14, dig (σ 2) n k, ?_, ?_, (s1.hi (by decide)).tr (s14'.hi (by decide)), A2, Or.inr ⟨m, ok, m1, m6, rfl, Or.inl ⟨n, k, i1, rfl, rfl⟩⟩⟩
        · rw [head _ f7, if_neg (show ¬ nI n ≤ (0 : Int32) from nI_ge (a := 0) (by omega) (by omega)), rc, bnvS, ← eh14]
        · refine C1.fnd hA.empty (fun a z1 z2 z3 z4 => ?_) ?_ ?_ ?_
          · have key : ∀ x ∈ [122, 123, 124, 125, 126, 128, 129], x ∈ scrL := by decide
            have : a ∉ [122, 123, 124, 125, 126, 128, 129, 140, 141] := fun z => by
              simp only [List.mem_cons, List.not_mem_nil, or_false] at z
              rcases z with z | z | z | z | z | z | z | z | z
              all_goals first | exact z3 z | exact z4 z | exact z2 (key a (by simp [z]))
            exact ⟨(s14' a this).1, (s14' a this).2.1⟩
          · rw [(s14 123 (by decide)).1]; exact k9
          · rw [eh14, sI_s, dig_len]
          · intro i hi
            rw [dig_len] at hi
            rw [dig_dgt hi, eh14, sI_ne1 (by decide), show (141 : Nat) = 140 + 1 from rfl, cI_at, cpy_0 hi, eh9, sI_ne1 (by decide)]
            exact r2 i hi
      · refine ⟨-1, h9, fd, ?_, ?_, (s1.hi (by decide)).tr (s9.hi (by decide)), hA.empty, Or.inr ⟨m, ok, m1, m6, rfl, Or.inr ⟨no, rfl, rfl⟩⟩⟩
        · rw [head _ f7, if_pos (by decide)]
        · refine C1.scr hA.empty (fun a z1 z2 => ?_) k9
          have key : ∀ x ∈ [122, 123, 124, 125, 126, 128, 129], x ∈ scrL := by decide
          have := s9 a (fun z => z2 (key a z))
          exact ⟨this.1, this.2.1⟩
    · refine ⟨-2, h1, fd, ?_, C1, s1.hi (by decide), hA.empty, Or.inl ⟨fun z => hx z.2, rfl, rfl⟩⟩
      unfold f_X12_findWithBeats
      rw [f1, bndS, if_neg (by decide)]
      by_cases x1 : x2 < 1
      · rw [if_pos x1]
      · rw [if_neg x1, if_neg]
        intro z
        obtain ⟨j, z1, z2, z3⟩ := in_range (x := x2) (a := 1) (b := 6) (by decide) (by decide) x1 (by rw [Int32.not_lt]; exact z)
        exact hx ⟨j, z1, z2, z3⟩
  · refine ⟨-2, h1, fd, ?_, C1, s1.hi (by decide), hA.empty, Or.inl ⟨fun z => nk z.1, rfl, rfl⟩⟩
    unfold f_X12_findWithBeats
    rw [f1, bndS, if_pos (by decide)]
/-- the row found, of the reference -/
theorem m_fwb {m : Nat} {kb : Option Nat} {g : Nat → Nat} (hk : ∀ q, kb = some q → q ≤ 54) (hA : AbOk tp σ nm K fd fl tn) (hM : MR [] σ nm K fd fl tn h) (R : RB σ (σ 3) (σ 4) h) (hg : ∀ b, b ≤ σ 3 → g b ≤ 9) (h2 : ∀ b, b ≤ σ 3 → h.1 172 b = nI (g b)) (m6 : m ≤ 6) : ∃ v h2 fd2, (bnd (f_X13_shortest (nI m) (kbI kb) h) fun v9 h8 => bnd (f_X13_keepRow v9 h8) fun v11 h10 => some (v11, h10)) = some (v, h2) ∧ MR [] σ nm K fd2 fl tn h2 ∧ Lo h h2 ∧ ((∃ n k, isSh σ (σ 3) (σ 4) g kb m n k ∧ v = nI n ∧ fd2 = dig (σ 2) n k) ∨ (noSh σ (σ 3) (σ 4) g kb m ∧ v = -1 ∧ fd2 = fd)) := by
  have H := hA.2.1.1
  obtain ⟨-, -, -, e3, e3', e4, e4'⟩ := H.1
  obtain ⟨h7, F7, o7⟩ := m_shortest (e := σ 3) (r := σ 4) (most := m) (g := g) (kb := kb) H (by omega) (by omega) (by omega) m6 hg (fun q hq => by have := hk q hq; omega) R h2
  have M7 := hM.fs F7
  rcases o7 with ⟨n, k, i1, f7, A7⟩ | ⟨no, f7⟩
  · obtain ⟨h8, f8, M8, L8, -⟩ := m_keepRow M7 A7 (by have := i1.2.1; omega)
    exact ⟨nI n, h8, dig (σ 2) n k, by rw [f7, bndS, f8, bndS], M8, F7.lo.tr L8, Or.inl ⟨n, k, i1, rfl, rfl⟩⟩
  · refine ⟨-1, h7, fd, ?_, M7, F7.lo, Or.inr ⟨no, rfl, rfl⟩⟩
    rw [f7, bndS]
    unfold f_X13_keepRow
    rw [if_neg (by decide), bndS]
theorem st_find (x : Int32) (hI : Inv h) : ∃ v h1 h2, f_X12_find x h = some (v, h1) ∧ f_X13_find_ x h1 = some (v, h2) ∧ Inv h2 := by
  obtain ⟨tp, σ, nm, K, fd, fl, tn, hA, hC, hM⟩ := hI
  obtain ⟨v, h1, fd2, f1, C1, I1, A1, o1⟩ := c_fwb x (kb := none) (fun q hq => by cases hq) hA hC
  have M1 := (hM.hi I1).keep (th_Eq 0)
  obtain ⟨g1, hg, N1, L1⟩ := m_goals hA M1
  have ef : f_X12_find x h = some (v, h1) := by
    unfold f_X12_find
    rw [show (-1 : Int32) = kbI none from rfl, f1, bndS]
  have bad : ¬ (okG σ tp ∧ ∃ m, 1 ≤ m ∧ m ≤ 6 ∧ x = nI m) → f_X13_find_ x h1 = some (-2, g1) := fun hb => by
    unfold f_X13_find_
    rw [lt_s0]
    rcases hg with ⟨ok, f2, -⟩ | ⟨-, f2⟩
    · rw [f2, bndS, if_neg (by decide)]
      rcases m_isIn x (lo := 1) (hi := 6) (a := 1) (b := 6) g1 rfl rfl (by decide) (by decide) with ⟨e, q⟩ | ⟨j, q1, q2, q3, e⟩
      · rw [e, bndS, if_pos (by decide)]
      · exact absurd ⟨ok, j, q1, q2, q3⟩ hb
    · rw [f2, bndS, if_pos (by decide)]
  rcases o1 with ⟨hb, hv, hf⟩ | ⟨m, ok, m1, m6, rfl, o1⟩
  · refine ⟨v, h1, g1, ef, by rw [hv]; exact bad hb, [], σ, nm, K, fd2, fl, tn, A1, C1.lo A1 ((th_Lo 0).tr L1), ?_⟩
    rw [hf]; exact N1
  · rcases hg with ⟨-, f2, R2, g2⟩ | ⟨nk, -⟩
    · have gl : ∀ b, b ≤ σ 3 → (fun b => tp.getD b 0) b ≤ 9 := fun b hb => ok.2 b (by rw [ok.1.1]; omega)
      obtain ⟨v', g3, fd3, f3, N3, L3, o3⟩ := m_fwb (m := m) (kb := none) (g := fun b => tp.getD b 0) (fun q hq => by cases hq) hA N1 R2 gl g2 m6
      have same : v' = v ∧ fd3 = fd2 := by
        rcases o1 with ⟨n, k, i1, v1, d1⟩ | ⟨n1, v1, d1⟩
        · rcases o3 with ⟨n', k', i2, v2, d2⟩ | ⟨n2, v2, d2⟩
          · obtain ⟨u1, u2⟩ := isSh_u i1 i2
            rw [v1, v2, d1, d2, u1, u2]
            exact ⟨rfl, rfl⟩
          · exact (isSh_no i1 n2).elim
        · rcases o3 with ⟨n', k', i2, v2, d2⟩ | ⟨n2, v2, d2⟩
          · exact (isSh_no i2 n1).elim
          · rw [v1, v2, d1, d2]
            exact ⟨rfl, rfl⟩
      refine ⟨v, h1, g3, ef, ?_, [], σ, nm, K, fd2, fl, tn, A1, C1.lo A1 ((th_Lo 0).tr (L1.tr L3)), by rw [← same.2]; exact N3⟩
      unfold f_X13_find_
      rw [lt_s0, f2, bndS, if_neg (by decide), m_isIn_t (lo := 1) (hi := 6) (a := 1) (b := 6) (j := m) g1 rfl rfl rfl m1 m6 (by decide), bndS, if_neg (by decide), ← same.1]
      exact f3
    · exact absurd ok nk
theorem st_verse (x y : Int32) (hI : Inv h) : ∃ v h1 h2, f_X12_verse x y h = some (v, h1) ∧ f_X13_verse x y h1 = some (v, h2) ∧ Inv h2 := by
  obtain ⟨tp, σ, nm, K, fd, fl, tn, hA, hC, hM⟩ := hI
  by_cases hx : ∃ q, q ≤ 54 ∧ x = nI q
  · obtain ⟨q, q54, rfl⟩ := hx
    obtain ⟨v, h1, fd2, f1, C1, I1, A1, o1⟩ := c_fwb y (kb := some q) (fun q' hq => by cases hq; exact q54) hA hC
    have M1 := (hM.hi I1).keep (th_Eq 0)
    obtain ⟨g1, hg, N1, L1⟩ := m_goals hA M1
    have ef : f_X12_verse (nI q) y h = some (v, h1) := by
      unfold f_X12_verse
      rw [if_neg (nI_pos (by omega)), if_pos (show nI q ≤ (54 : Int32) from nI_le (b := 54) q54 (by decide)), show nI q = kbI (some q) from rfl, f1, bndS]
    have bad : ¬ (okG σ tp ∧ ∃ m, 1 ≤ m ∧ m ≤ 6 ∧ y = nI m) → f_X13_verse (nI q) y h1 = some (-2, g1) := fun hb => by
      unfold f_X13_verse
      rw [lt_s0]
      rcases hg with ⟨ok, f2, -⟩ | ⟨-, f2⟩
      · rw [f2, bndS, if_neg (by decide)]
        rcases m_isIn y (lo := 1) (hi := 6) (a := 1) (b := 6) g1 rfl rfl (by decide) (by decide) with ⟨e, q⟩ | ⟨j, q1, q2, q3, e⟩
        · rw [e, bndS, if_pos (by decide)]
        · exact absurd ⟨ok, j, q1, q2, q3⟩ hb
      · rw [f2, bndS, if_pos (by decide)]
    rcases o1 with ⟨hb, hv, hf⟩ | ⟨m, ok, m1, m6, rfl, o1⟩
    · refine ⟨v, h1, g1, ef, by rw [hv]; exact bad hb, [], σ, nm, K, fd2, fl, tn, A1, C1.lo A1 ((th_Lo 0).tr L1), ?_⟩
      rw [hf]; exact N1
    · rcases hg with ⟨-, f2, R2, g2⟩ | ⟨nk, -⟩
      · have gl : ∀ b, b ≤ σ 3 → (fun b => tp.getD b 0) b ≤ 9 := fun b hb => ok.2 b (by rw [ok.1.1]; omega)
        obtain ⟨v', g3, fd3, f3, N3, L3, o3⟩ := m_fwb (m := m) (kb := some q) (g := fun b => tp.getD b 0) (fun q' hq => by cases hq; exact q54) hA N1 R2 gl g2 m6
        have same : v' = v ∧ fd3 = fd2 := by
          rcases o1 with ⟨n, k, i1, v1, d1⟩ | ⟨n1, v1, d1⟩
          · rcases o3 with ⟨n', k', i2, v2, d2⟩ | ⟨n2, v2, d2⟩
            · obtain ⟨u1, u2⟩ := isSh_u i1 i2
              rw [v1, v2, d1, d2, u1, u2]
              exact ⟨rfl, rfl⟩
            · exact (isSh_no i1 n2).elim
          · rcases o3 with ⟨n', k', i2, v2, d2⟩ | ⟨n2, v2, d2⟩
            · exact (isSh_no i2 n1).elim
            · rw [v1, v2, d1, d2]
              exact ⟨rfl, rfl⟩
        refine ⟨v, h1, g3, ef, ?_, [], σ, nm, K, fd2, fl, tn, A1, C1.lo A1 ((th_Lo 0).tr (L1.tr L3)), by rw [← same.2]; exact N3⟩
        unfold f_X13_verse
        rw [lt_s0, f2, bndS, if_neg (by decide), m_isIn_t (lo := 1) (hi := 6) (a := 1) (b := 6) (j := m) g1 rfl rfl rfl m1 m6 (by decide), bndS, if_neg (by decide), m_isIn_t (lo := 0) (hi := 54) (a := 0) (b := 54) (j := q) g1 rfl rfl rfl (by omega) q54 (by decide), bndS, if_neg (by decide), ← same.1]
        exact f3
      · exact absurd ok nk
  · have C1 := CR.empty hA hC
    have I1 : Hi h (sI h 2 1 (nI 0)) := (Same.ofI (X := [2]) (by decide)).hi (by decide)
    have M1 := (hM.hi I1).keep (th_Eq 0)
    obtain ⟨g1, hg, N1, L1⟩ := m_goals hA M1
    refine ⟨-2, sI h 2 1 (nI 0), g1, ?_, ?_, [], σ, nm, K, fd, fl, tn, hA.empty, C1.lo hA.empty ((th_Lo 0).tr L1), N1⟩
    · unfold f_X12_verse B_X12_verse_10
      by_cases x0 : x < 0
      · rw [if_pos x0]
        rfl
      · rw [if_neg x0, if_neg]
        · rfl
        · intro z
          obtain ⟨j, z1, z2, z3⟩ := in_range (x := x) (a := 0) (b := 54) (by decide) (by decide) x0 (by rw [Int32.not_lt]; exact z)
          exact hx ⟨j, z2, z3⟩
    · unfold f_X13_verse
      rw [lt_s0]
      rcases hg with ⟨ok, f2, -⟩ | ⟨-, f2⟩
      · rw [f2, bndS, if_neg (by decide)]
        rcases m_isIn y (lo := 1) (hi := 6) (a := 1) (b := 6) g1 rfl rfl (by decide) (by decide) with ⟨e, q⟩ | ⟨j, q1, q2, q3, e⟩
        · rw [e, bndS, if_pos (by decide)]
        · rw [e, bndS, if_neg (by decide)]
          rcases m_isIn x (lo := 0) (hi := 54) (a := 0) (b := 54) g1 rfl rfl (by decide) (by decide) with ⟨e, q⟩ | ⟨j, q1, q2, q3, e⟩
          · rw [e, bndS, if_pos (by decide)]
          · exact absurd ⟨j, q2, q3⟩ hx
      · rw [f2, bndS, if_pos (by decide)]
end TJ
