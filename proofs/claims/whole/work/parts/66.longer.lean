section TK
variable {tp : List Nat} {σ τ : Nat → Nat} {nm nm2 : Nat → List Nat} {K : Im} {fd : List Nat} {fl : Nat} {tn : Option Tn} {h h' : Hp}
def gw (a c b : Nat) : Nat := if b = 0 then a else c
theorem c_wantByAll (x y : Int32) : ∃ h', f_X2_wantByAll x y h = some h' ∧ Same [127] h h' ∧ h'.2 = h.2 ∧ h'.1 127 0 = x ∧ ∀ b, 1 ≤ b → b < 6 → h'.1 127 b = y := by
  obtain ⟨g, e, p1, p2, p3⟩ := loop2n (F := F_J7_fill_53178_5 127 y (nI 6) (fun h5 => some h5)) (k := fun h5 => some h5) 6 (fun i q => Same [127] h q ∧ q.2 = h.2 ∧ ∀ b, b < i → q.1 127 b = y) (fun self q _ => by
      unfold F_J7_fill_53178_5
      rw [if_pos (by decide)]) (fun self i q hi ⟨z1, z2, z3⟩ => by
      refine ⟨sI q 127 i y, ?_, z1.tr (Same.ofI (by decide)), z2, fun b hb => ?_⟩
      · unfold F_J7_fill_53178_5
        rw [if_neg (nI_ge hi (by omega)), if_pos (show inb (nI i) (aln 127) = true from inb_nI (show i < 6 by omega) (by decide)), lt_s0, nI_clamp (by omega), nI_1]
      · by_cases h1 : b = i
        · rw [h1, sI_s]
        · rw [sI_nk1 h1]; exact z3 b (by omega)) h ⟨Same.rf, rfl, fun b hb => by omega⟩ (by omega)
  refine ⟨sI g 127 0 x, ?_, p1.tr (Same.ofI (by decide)), p2, sI_s, fun b h1 h2 => by rw [sI_nk1 (by omega)]; exact p3 b h2⟩
  unfold f_X2_wantByAll f_J7_fill_53178
  rw [lt_s0, li_0]
  show bnv (itr2 (F_J7_fill_53178_5 127 y (nI 6) fun h5 => some h5) N0 (nI 0) h) _ = _
  rw [e, bnvS, lt_s0, clp (by omega)]
/-- the class seeks for GOALS a (all) and c (each beginning) -/
theorem c_seekW {x e r a c most : Nat} (hA : AbOk tp σ nm K fd fl tn) (hC : CR tp σ nm K fd fl tn h) (hx : x < 122 ∨ 129 < x) (hxe : h.1 x 0 = nI e) (hxr : h.1 x 1 = nI r) (e0 : 0 < e) (he : e ≤ 5) (r5 : r < 1000) (ha : a ≤ 10) (hc : c ≤ 10) (hm : most ≤ 6) : ∃ h6 v h7, f_X2_wantByAll (nI a) (nI c) h = some h6 ∧ f_X2_seekShortest 7 x (nI most) h6 = some (v, h7) ∧ CR tp σ nm K fd fl tn h7 ∧ Same [122, 123, 124, 125, 126, 127, 128, 129] h h7 ∧ ((∃ n k, isSh σ e r (gw a c) none most n k ∧ v = nI n) ∨ (noSh σ e r (gw a c) none most ∧ v = -1)) := by
  obtain ⟨h6, f6, s6, l6, w0, w1⟩ := c_wantByAll (h := h) (nI a) (nI c)
  have T6 : TgRep h6 7 σ nm := hC.2.1.1.kept (fun q z1 z2 => ⟨(s6 q (by simp; omega)).1, (s6 q (by simp; omega)).2.1⟩)
  have cx : h6.1 x = h.1 x := (s6 x (by simp; omega)).1
  obtain ⟨h7, s7, k7, o7⟩ := c_seekShortest (h := h6) (x := x) (e := e) (r := r) (most := most) (g := gw a c) (kb := none) T6 hA.2.1.1 hx (by rw [cx]; exact hxe) (by rw [cx]; exact hxr) e0 he r5 (fun b hb => by unfold gw; by_cases z : b = 0; rw [if_pos z]; exact ha; rw [if_neg z]; exact hc) (fun q hq => by cases hq) hm (fun b hb => by
    unfold gw
    by_cases z : b = 0
    · rw [if_pos z, z]; exact w0
    · rw [if_neg z]; exact w1 b (by omega) (by omega)) (by rw [(s6 123 (by decide)).1]; exact hC.2.2.2.2.2.2)
  have sT : Same [122, 123, 124, 125, 126, 127, 128, 129] h h7 := (s6.mono (fun q hq => by simp only [List.mem_cons, List.not_mem_nil, or_false] at hq ⊢; omega)).tr (s7.mono (fun q hq => by simp only [List.mem_cons, List.not_mem_nil, or_false] at hq ⊢; omega))
  have C7 : CR tp σ nm K fd fl tn h7 := by
    refine hC.scr hA (fun a z1 z2 => ?_) k7
    have key : ∀ x ∈ [122, 123, 124, 125, 126, 127, 128, 129], x ∈ scrL := by decide
    have := sT a (fun z => z2 (key a z))
    exact ⟨this.1, this.2.1⟩
  rcases o7 with ⟨n, k, i1, f7, -⟩ | ⟨no, f7⟩
  · exact ⟨h6, nI n, h7, f6, f7, C7, sT, Or.inl ⟨n, k, i1, rfl⟩⟩
  · exact ⟨h6, -1, h7, f6, f7, C7, sT, Or.inr ⟨no, rfl⟩⟩
/-- how many, in numbers that may be below 0 -/
def shV (v w : Int32) : Int32 := if v < 0 then -7 else if 0 ≤ w then w - v else -7
theorem sh_same {e r most n k : Nat} {g : Nat → Nat} {kb : Option Nat} {v w : Int32} (a : (∃ n k, isSh τ e r g kb most n k ∧ v = nI n) ∨ (noSh τ e r g kb most ∧ v = -1)) (b : (∃ n k, isSh τ e r g kb most n k ∧ w = nI n) ∨ (noSh τ e r g kb most ∧ w = -1)) : v = w := by
  rcases a with ⟨n, k, i1, v1⟩ | ⟨n1, v1⟩
  · rcases b with ⟨n', k', i2, v2⟩ | ⟨n2, v2⟩
    · rw [v1, v2, (isSh_u i1 i2).1]
    · exact (isSh_no i1 n2).elim
  · rcases b with ⟨n', k', i2, v2⟩ | ⟨n2, v2⟩
    · exact (isSh_no i2 n1).elim
    · rw [v1, v2]
theorem m_seekW {e r a c most : Nat} (H : TgOk τ nm) (e0 : 0 < e) (he : e ≤ 5) (r5 : r < 1000) (hm : most ≤ 6) (ha : a ≤ 9) (hc : c ≤ 9) (R : RB τ e r h) (h2 : ∀ b, b ≤ e → h.1 172 b = nI (gw a c b)) : ∃ v h', f_X13_shortest (nI most) (-1) h = some (v, h') ∧ FS h h' ∧ ((∃ n k, isSh τ e r (gw a c) none most n k ∧ v = nI n) ∨ (noSh τ e r (gw a c) none most ∧ v = -1)) := by
  obtain ⟨h7, F7, o7⟩ := m_shortest (e := e) (r := r) (most := most) (g := gw a c) (kb := none) H e0 he r5 hm (fun b hb => by unfold gw; by_cases z : b = 0; rw [if_pos z]; exact ha; rw [if_neg z]; exact hc) (fun q hq => by cases hq) R h2
  rcases o7 with ⟨n, k, i1, f7, -⟩ | ⟨no, f7⟩
  · exact ⟨nI n, h7, f7, F7, Or.inl ⟨n, k, i1, rfl⟩⟩
  · exact ⟨-1, h7, f7, F7, Or.inr ⟨no, rfl⟩⟩
theorem st_longer (x y : Int32) (hI : Inv h) : ∃ v h1 h2, f_X12_longer x y h = some (v, h1) ∧ f_X13_longer x y h1 = some (v, h2) ∧ Inv h2 := by
  obtain ⟨tp, σ, nm, K, fd, fl, tn, hA, hC, hM⟩ := hI
  have H := hA.2.1.1
  have h8 := H.1.2.2.1
  obtain ⟨-, -, -, e3, e3', e4, e4'⟩ := H.1
  have M1 := hM.keep (th_Eq 0)
  have t9 : h.1 9 0 = nI (σ 3) := hC.2.1.1.1.2.2.2.1
  have t9' : h.1 9 1 = nI (σ 4) := hC.2.1.1.1.2.2.2.2
  rcases c_isMeaning (h := h) x with ⟨m, m8, rfl, c1⟩ | ⟨c1, hx⟩
  · by_cases hy : ∃ j, 1 ≤ j ∧ j ≤ 6 ∧ y = nI j
    · obtain ⟨q, q1, q6, rfl⟩ := hy
      obtain ⟨g6, v, g7, f6, f7, C7, s7, o7⟩ := c_seekW (x := 9) (e := σ 3) (r := σ 4) (a := m) (c := 9) (most := q) hA hC (by omega) t9 t9' (by omega) (by omega) (by omega) (by omega) (by omega) q6
      obtain ⟨g9, w, g10, f9, f10, C10, s10, o10⟩ := c_seekW (h := g7) (x := 9) (e := σ 3) (r := σ 4) (a := 9) (c := m) (most := q) hA C7 (by omega) (by rw [(s7 9 (by decide)).1]; exact t9) (by rw [(s7 9 (by decide)).1]; exact t9') (by omega) (by omega) (by omega) (by omega) (by omega) q6
      have sg : Same [122, 123, 124, 125, 126, 127, 128, 129] h g10 := s7.tr s10
      have ef : f_X12_longer (nI m) (nI q) h = some (shV v w, g10) := by
        unfold f_X12_longer shV
        rw [c1, bndS, if_neg (by decide), if_neg (show ¬ nI q < (1 : Int32) from nI_nlt (b := 1) q1 (by omega)), if_pos (show nI q ≤ (6 : Int32) from nI_le (b := 6) q6 (by decide)), show (9 : Int32) = nI 9 from rfl, f6, bnvS, f7, bndS, f9, bnvS, f10, bndS]
        by_cases z1 : v < 0
        · rw [if_pos z1, if_pos z1]
        · rw [if_neg z1, if_neg z1]
          by_cases z2 : 0 ≤ w
          · rw [if_pos z2, if_pos z2]
          · rw [if_neg z2, if_neg z2]
      have Mg := (hM.hi (sg.hi (by decide))).keep (th_Eq 0)
      obtain ⟨g0, eg0⟩ : ∃ z, z = sI g10 155 0 0 := ⟨_, rfl⟩
      rw [← eg0] at Mg
      have L0 : Lo g10 g0 := by rw [eg0]; exact th_Lo 0
      have in1 : ∀ z, f_X13_isIn (nI m) 0 7 z = some (1, z) := fun z => m_isIn_t (a := 0) (b := 7) (j := m) z rfl rfl rfl (by omega) (by omega) (by decide)
      have in2 : ∀ z, f_X13_isIn (nI q) 1 6 z = some (1, z) := fun z => m_isIn_t (a := 1) (b := 6) (j := q) z rfl rfl rfl q1 q6 (by decide)
      by_cases hz : σ 2 = 0
      · have no : ∀ g, noSh σ (σ 3) (σ 4) g none q := fun g n n1 n2 j hj => by
          rw [hz, Nat.zero_pow (by omega)] at hj
          omega
        have vv : v = -1 := by
          rcases o7 with ⟨n, k, i1, -⟩ | ⟨-, z⟩
          · exact (isSh_no i1 (no _)).elim
          · exact z
        refine ⟨shV v w, g10, g0, ef, ?_, tp, σ, nm, K, fd, fl, tn, hA, C10.lo hA L0, Mg⟩
        unfold f_X13_longer
        rw [lt_s0, ← eg0, in1, bndS, if_neg (by decide), in2, bndS, if_neg (by decide), li_2, clp (by omega), Mg.2.1 2 (by omega), hz, if_pos (by decide), vv]
        rfl
      · obtain ⟨y1, j1, z1, z2, z3, z4, z5⟩ := m_settle Mg H
        have N1 := Mg.settled z1 z2 z3 z4 z5
        have R1 := RB.ofM N1 z5
        -- the GOALS of the reference
        have gl43 : ∀ kk : Hp → Option (Int32 × Hp), ∃ y2, itr2 (F_X13_longer_43 (nI m) (nI q) kk) N0 (nI 0) y1 = kk y2 ∧ Same [172] y1 y2 ∧ y2.2 = y1.2 ∧ ∀ b, b ≤ σ 3 → y2.1 172 b = nI (gw 9 m b) := fun kk => by
          obtain ⟨y2, e2, p1, p2, p3⟩ := loop2n (F := F_X13_longer_43 (nI m) (nI q) kk) (k := kk) (σ 3 + 1) (fun i z => Same [172] y1 z ∧ z.2 = y1.2 ∧ ∀ b, b < i → z.1 172 b = nI (gw 9 m b)) (fun self z ⟨w1, _⟩ => by
              unfold F_X13_longer_43
              rw [(w1 155 (by decide)).1, R1.2.2.1, if_pos (nI_lt (by omega) (by omega))]) (fun self i z hi ⟨w1, w2, w3⟩ => by
              have b66 : ∀ k t, B_X13_longer_66 (nI m) (nI q) k self (nI i) t (nI i) z = self (nI (i + 1)) (sI z 172 i t) := fun k t => by
                unfold B_X13_longer_66
                rw [if_pos (inb_nI (by omega) (by decide)), lt_s0, nI_clamp (by omega), nI_1]
              refine ⟨sI z 172 i (nI (gw 9 m i)), ?_, w1.tr (Same.ofI (by decide)), w2, fun b hb => ?_⟩
              · unfold F_X13_longer_43
                rw [(w1 155 (by decide)).1, R1.2.2.1, if_neg (nI_nlt (by omega) (by omega)), b66, b66]
                by_cases hi0 : i = 0
                · rw [hi0, if_pos (show nI 0 = 0 from rfl)]
                  rfl
                · rw [if_neg (show ¬ nI i = 0 from fun z => hi0 ((nI_eq (b := 0) (by omega) (by omega)).mp z))]
                  unfold gw
                  rw [if_neg hi0]
              · by_cases h1 : b = i
                · rw [h1, sI_s]
                · rw [sI_nk1 h1]; exact w3 b (by omega)) y1 ⟨Same.rf, rfl, fun b hb => by omega⟩ (by omega)
          exact ⟨y2, e2, p1, p2, fun b hb => p3 b (by omega)⟩
        have gl83 : ∀ (y1 : Hp) (x3 : Int32) (kk : Hp → Option (Int32 × Hp)), RB σ (σ 3) (σ 4) y1 → ∃ y2, itr2 (F_X13_longer_83 (nI m) (nI q) x3 kk) N0 (nI 0) y1 = kk y2 ∧ Same [172] y1 y2 ∧ y2.2 = y1.2 ∧ ∀ b, b ≤ σ 3 → y2.1 172 b = nI (gw m 9 b) := fun y1 x3 kk R1 => by
          obtain ⟨y2, e2, p1, p2, p3⟩ := loop2n (F := F_X13_longer_83 (nI m) (nI q) x3 kk) (k := kk) (σ 3 + 1) (fun i z => Same [172] y1 z ∧ z.2 = y1.2 ∧ ∀ b, b < i → z.1 172 b = nI (gw m 9 b)) (fun self z ⟨w1, _⟩ => by
              unfold F_X13_longer_83
              rw [(w1 155 (by decide)).1, R1.2.2.1, if_pos (nI_lt (by omega) (by omega))]) (fun self i z hi ⟨w1, w2, w3⟩ => by
              have b66 : ∀ k t, B_X13_longer_109 (nI m) (nI q) x3 k self (nI i) t (nI i) z = self (nI (i + 1)) (sI z 172 i t) := fun k t => by
                unfold B_X13_longer_109
                rw [if_pos (inb_nI (by omega) (by decide)), lt_s0, nI_clamp (by omega), nI_1]
              refine ⟨sI z 172 i (nI (gw m 9 i)), ?_, w1.tr (Same.ofI (by decide)), w2, fun b hb => ?_⟩
              · unfold F_X13_longer_83
                rw [(w1 155 (by decide)).1, R1.2.2.1, if_neg (nI_nlt (by omega) (by omega)), b66, b66]
                by_cases hi0 : i = 0
                · rw [hi0, if_pos (show nI 0 = 0 from rfl)]
                  rfl
                · rw [if_neg (show ¬ nI i = 0 from fun z => hi0 ((nI_eq (b := 0) (by omega) (by omega)).mp z))]
                  unfold gw
                  rw [if_neg hi0]
                  rfl
              · by_cases h1 : b = i
                · rw [h1, sI_s]
                · rw [sI_nk1 h1]; exact w3 b (by omega)) y1 ⟨Same.rf, rfl, fun b hb => by omega⟩ (by omega)
          exact ⟨y2, e2, p1, p2, fun b hb => p3 b (by omega)⟩
        have keepR : ∀ {z z' : Hp}, Same [172] z z' → RB σ (σ 3) (σ 4) z → RB σ (σ 3) (σ 4) z' := fun s ⟨a, b, c, d⟩ => ⟨by rw [(s 157 (by decide)).1]; exact a, by unfold Cache; rw [(s 166 (by decide)).1, (s 165 (by decide)).1, (s 164 (by decide)).1]; exact b, by rw [(s 155 (by decide)).1]; exact c, by rw [(s 155 (by decide)).1]; exact d⟩
        obtain ⟨k2, ek2⟩ : ∃ k2 : Int32 → Hp → Option (Int32 × Hp), k2 = fun v16 h21 => bnd (f_X13_shortest (nI q) (-1) h21) fun v23 h22 => (if v16 < 0 then some ((-7), h22) else if 0 ≤ v23 then some (v16 - v23, h22) else some ((-7), h22)) := ⟨_, rfl⟩
        obtain ⟨k1, ek1⟩ : ∃ k1 : Hp → Option (Int32 × Hp), k1 = fun h14 => bnd (f_X13_shortest (nI q) (-1) h14) fun v16 h15 => itr2 (F_X13_longer_83 (nI m) (nI q) v16 (k2 v16)) N0 0 h15 := ⟨_, rfl⟩
        obtain ⟨y2, j2, p1, p2, p3⟩ := gl43 k1
        obtain ⟨w', y3, j3, F3, o3⟩ := m_seekW (e := σ 3) (r := σ 4) (a := 9) (c := m) (most := q) H (by omega) (by omega) (by omega) q6 (by omega) (by omega) (keepR p1 R1) p3
        obtain ⟨y4, j4, r1, r2, r3⟩ := gl83 y3 w' (k2 w') ((keepR p1 R1).fs F3)
        obtain ⟨v', y5, j5, F5, o5⟩ := m_seekW (e := σ 3) (r := σ 4) (a := m) (c := 9) (most := q) H (by omega) (by omega) (by omega) q6 (by omega) (by omega) (keepR r1 ((keepR p1 R1).fs F3)) r3
        have ev : v = v' := sh_same (n := 0) (k := 0) o7 o5
        have ew : w = w' := sh_same (n := 0) (k := 0) o10 o3
        have wv : (w < 0) = ¬ 0 ≤ w := propext (by rw [Int32.not_le])
        have vv : (v < 0) = ¬ 0 ≤ v := propext (by rw [Int32.not_le])
        refine ⟨shV v w, g10, y5, ef, ?_, tp, σ, nm, K, fd, fl, tn, hA, C10.lo hA (L0.tr ((z1.lo (by decide)).tr ((p1.lo (by decide)).tr (F3.lo.tr ((r1.lo (by decide)).tr F5.lo))))), (((N1.scr p1 (by decide)).fs F3).scr r1 (by decide)).fs F5⟩
        unfold f_X13_longer
        rw [lt_s0, ← eg0, in1, bndS, if_neg (by decide), in2, bndS, if_neg (by decide), li_2, clp (by omega), Mg.2.1 2 (by omega), if_neg (show ¬ nI (σ 2) = 0 from fun z => hz ((nI_eq (b := 0) (by omega) (by omega)).mp z)), j1, bnvS]
        have e1 : (fun h14 => bnd (f_X13_shortest (nI q) (-1) h14) fun v16 h15 => itr2 (F_X13_longer_83 (nI m) (nI q) v16 (fun h21 => bnd (f_X13_shortest (nI q) (-1) h21) fun v23 h22 => (if v16 < 0 then some ((-7), h22) else if 0 ≤ v23 then some (v16 - v23, h22) else some ((-7), h22)))) N0 0 h15) = k1 := by rw [ek1, ek2]
        rw [e1, li_0, j2, ek1]
        show bnd (f_X13_shortest (nI q) (-1) y2) _ = _
        rw [j3, bndS, li_0, j4, ek2]
        show bnd (f_X13_shortest (nI q) (-1) y4) _ = _
        rw [j5, bndS, ← ev, ← ew]
        unfold shV
        by_cases a1 : v < 0
        · rw [if_pos a1]
          by_cases a2 : w < 0
          · rw [if_pos a2]
          · rw [if_neg a2, if_neg (by rw [vv] at a1; exact a1)]
        · rw [if_neg a1]
          have a1' : 0 ≤ v := by rw [vv] at a1; exact Classical.byContradiction a1
          by_cases a2 : w < 0
          · rw [if_pos a2, if_neg (by rw [wv] at a2; exact a2)]
          · have a2' : 0 ≤ w := by rw [wv] at a2; exact Classical.byContradiction a2
            rw [if_neg a2, if_pos a1', if_pos a2']
    · refine ⟨-7, h, sI h 155 0 0, ?_, ?_, tp, σ, nm, K, fd, fl, tn, hA, hC.lo hA (th_Lo 0), M1⟩
      · unfold f_X12_longer
        rw [c1, bndS, if_neg (by decide)]
        by_cases y1 : y < 1
        · rw [if_pos y1]
        · rw [if_neg y1, if_neg]
          intro z
          obtain ⟨j, z1, z2, z3⟩ := in_range (x := y) (a := 1) (b := 6) (by decide) (by decide) y1 (by rw [Int32.not_lt]; exact z)
          exact hy ⟨j, z1, z2, z3⟩
      · unfold f_X13_longer
        rw [lt_s0, m_isIn_t (lo := 0) (hi := 7) (a := 0) (b := 7) (j := m) _ rfl rfl rfl (by omega) (by omega) (by decide), bndS, if_neg (by decide)]
        rcases m_isIn y (lo := 1) (hi := 6) (a := 1) (b := 6) (sI h 155 0 0) rfl rfl (by decide) (by decide) with ⟨e, q⟩ | ⟨j, q1, q2, q3, e⟩
        · rw [e, bndS, if_pos (by decide)]
        · exact absurd ⟨j, q1, q2, q3⟩ hy
  · refine ⟨-7, h, sI h 155 0 0, ?_, ?_, tp, σ, nm, K, fd, fl, tn, hA, hC.lo hA (th_Lo 0), M1⟩
    · unfold f_X12_longer
      rw [c1, bndS, if_pos (by decide)]
    · unfold f_X13_longer
      rw [lt_s0]
      rcases m_isIn x (lo := 0) (hi := 7) (a := 0) (b := 7) (sI h 155 0 0) rfl rfl (by decide) (by decide) with ⟨e, q⟩ | ⟨j, q1, q2, q3, e⟩
      · rw [e, bndS, if_pos (by decide)]
      · exact absurd q3 (hx j (by omega))
theorem st_other (x y u w : Int32) (hI : Inv h) : ∃ v h1 h2, f_X12_other x y u w h = some (v, h1) ∧ f_X13_other x y u w h1 = some (v, h2) ∧ Inv h2 := by
  obtain ⟨tp, σ, nm, K, fd, fl, tn, hA, hC, hM⟩ := hI
  have H := hA.2.1.1
  have h8 := H.1.2.2.1
  have M1 := hM.keep (th_Eq 0)
  have bad : f_X12_other x y u w h = some (-2, h) → f_X13_other x y u w h = some (-2, sI h 155 0 0) → ∃ v h1 h2, f_X12_other x y u w h = some (v, h1) ∧ f_X13_other x y u w h1 = some (v, h2) ∧ Inv h2 := fun a b => ⟨-2, h, sI h 155 0 0, a, b, tp, σ, nm, K, fd, fl, tn, hA, hC.lo hA (th_Lo 0), M1⟩
  have no0 : B_X12_other_25 x y u w 0 h = some (-2, h) := by
    unfold B_X12_other_25
    rw [if_pos rfl]
  by_cases hx : ∃ n, 2 ≤ n ∧ n ≤ 5 ∧ x = nI n
  · obtain ⟨n, n2, n5, rfl⟩ := hx
    have inn : ∀ z, f_X13_isIn (nI n) 2 5 z = some (1, z) := fun z => m_isIn_t (a := 2) (b := 5) (j := n) z rfl rfl rfl n2 n5 (by decide)
    have npred : nI n - 1 = nI (n - 1) := by rw [li_1, subN (by omega)]
    have cx1 : ¬ nI n < (2 : Int32) := nI_nlt (b := 2) n2 (by omega)
    have cx2 : ¬ (5 : Int32) < nI n := nI_nlt (a := 5) n5 (by omega)
    by_cases hy : ∃ r, 1 ≤ r ∧ r ≤ n - 1 ∧ y = nI r
    · obtain ⟨r, r1, r2, rfl⟩ := hy
      have inr : ∀ z, f_X13_isIn (nI r) 1 (nI n - 1) z = some (1, z) := fun z => m_isIn_t (a := 1) (b := n - 1) (j := r) z rfl npred rfl r1 r2 (by omega)
      have c0 : f_X12_other (nI n) (nI r) u w h = B_X12_other_25 (nI n) (nI r) u w 1 h := by
        unfold f_X12_other
        rw [if_neg cx1, if_neg cx2, if_neg (show ¬ nI r < (1 : Int32) from nI_nlt (b := 1) r1 (by omega)), if_neg (nI_ge (by omega) (by omega))]
      rcases c_isMeaning (h := h) u with ⟨m, m8, rfl, c1⟩ | ⟨c1, hu⟩
      · have inm : ∀ z, f_X13_isIn (nI m) 0 7 z = some (1, z) := fun z => m_isIn_t (a := 0) (b := 7) (j := m) z rfl rfl rfl (by omega) (by omega) (by decide)
        by_cases hw : ∃ q, 1 ≤ q ∧ q ≤ 6 ∧ w = nI q
        · obtain ⟨q, q1, q6, rfl⟩ := hw
          have inq : ∀ z, f_X13_isIn (nI q) 1 6 z = some (1, z) := fun z => m_isIn_t (a := 1) (b := 6) (j := q) z rfl rfl rfl q1 q6 (by decide)
          -- the class: GOALS first, then the edict
          obtain ⟨h6, f6, s6, l6, w0, w1⟩ := c_wantByAll (h := h) (nI 9) (nI m)
          obtain ⟨h5, eh5⟩ : ∃ z, z = sI (sI h6 130 0 (nI n)) 130 1 (nI r) := ⟨_, rfl⟩
          have s5 : Same [127, 130] h h5 := by rw [eh5]; exact ((s6.mono (fun q hq => by simp only [List.mem_cons, List.not_mem_nil, or_false] at hq ⊢; omega)).tr (Same.ofI (by decide))).tr (Same.ofI (by decide))
          have T5 : TgRep h5 7 σ nm := hC.2.1.1.kept (fun q z1 z2 => ⟨(s5 q (by simp; omega)).1, (s5 q (by simp; omega)).2.1⟩)
          obtain ⟨h7, s7, k7, o7⟩ := c_seekShortest (h := h5) (x := 130) (e := n) (r := r) (most := q) (g := gw 9 m) (kb := none) T5 H (by omega) (by rw [eh5, sI_nk1 (by decide), sI_s]) (by rw [eh5, sI_s]) (by omega) (by omega) (by omega) (fun b hb => by unfold gw; by_cases z : b = 0; rw [if_pos z]; omega; rw [if_neg z]; omega) (fun q hq => by cases hq) q6 (fun b hb => by
            rw [eh5, sI_ne1 (by decide), sI_ne1 (by decide)]
            unfold gw
            by_cases z : b = 0
            · rw [if_pos z, z]; exact w0
            · rw [if_neg z]; exact w1 b (by omega) (by omega)) (by rw [(s5 123 (by decide)).1]; exact hC.2.2.2.2.2.2)
          have s7' : Same [122, 123, 124, 125, 126, 127, 128, 129, 130] h h7 := (s5.mono (fun q hq => by simp only [List.mem_cons, List.not_mem_nil, or_false] at hq ⊢; omega)).tr (s7.mono (fun q hq => by simp only [List.mem_cons, List.not_mem_nil, or_false] at hq ⊢; omega))
          have C7 : CR tp σ nm K fd fl tn h7 := by
            refine hC.scr hA (fun a z1 z2 => ?_) k7
            have key : ∀ x ∈ [122, 123, 124, 125, 126, 127, 128, 129, 130], x ∈ scrL := by decide
            have := s7' a (fun z => z2 (key a z))
            exact ⟨this.1, this.2.1⟩
          obtain ⟨v, f7, o7⟩ : ∃ v, f_X2_seekShortest 7 130 (nI q) h5 = some (v, h7) ∧ ((∃ n' k, isSh σ n r (gw 9 m) none q n' k ∧ v = nI n') ∨ (noSh σ n r (gw 9 m) none q ∧ v = -1)) := by
            rcases o7 with ⟨n', k, i1, f7, -⟩ | ⟨no, f7⟩
            · exact ⟨_, f7, Or.inl ⟨n', k, i1, rfl⟩⟩
            · exact ⟨_, f7, Or.inr ⟨no, rfl⟩⟩
          have ef : f_X12_other (nI n) (nI r) (nI m) (nI q) h = some (v, h7) := by
            rw [c0]
            unfold B_X12_other_25 f_X2_seekShortestBy f_X1_tell
            rw [if_neg (by decide), c1, bndS, if_neg (by decide), if_neg (show ¬ nI q < (1 : Int32) from nI_nlt (b := 1) q1 (by omega)), if_pos (show nI q ≤ (6 : Int32) from nI_le (b := 6) q6 (by decide)), show (9 : Int32) = nI 9 from rfl, f6, bnvS, lt_s0, lt_s0, bnvS, ← eh5, f7, bndS, bndS]
          -- the reference
          have Mg := (hM.hi (s7'.hi (by decide))).keep (th_Eq 0)
          obtain ⟨g0, eg0⟩ : ∃ z, z = sI h7 155 0 0 := ⟨_, rfl⟩
          rw [← eg0] at Mg
          have L0 : Lo h7 g0 := by rw [eg0]; exact th_Lo 0
          obtain ⟨y1, j1, z1, z2, z3, z4, z5⟩ := m_settle Mg H
          have N1 := Mg.settled z1 z2 z3 z4 z5
          obtain ⟨y2, ey2⟩ : ∃ z, z = sI (sI y1 155 25 (nI n)) 155 26 (nI r) := ⟨_, rfl⟩
          have N2 : MR tp σ nm K fd fl tn y2 := by rw [ey2]; exact (N1.keep (EqM.ofI (by decide) (fun _ => by decide))).keep (EqM.ofI (by decide) (fun _ => by decide))
          have R2 : RB σ n r y2 := by
            refine ⟨fun k hk _ => N2.2.1 k (by omega), ?_, by rw [ey2, sI_nk1 (by decide), sI_s], by rw [ey2, sI_s]⟩
            rw [ey2]
            exact z5.2.2
          have L2 : Lo y1 y2 := by rw [ey2]; exact ((Same.ofI (X := [155]) (by decide)).lo (by decide)).tr ((Same.ofI (X := [155]) (by decide)).lo (by decide))
          obtain ⟨k1, ek1⟩ : ∃ k1 : Hp → Option (Int32 × Hp), k1 = fun h21 => bnd (f_X13_shortest (nI q) (-1) h21) fun v23 h22 => some (v23, h22) := ⟨_, rfl⟩
          obtain ⟨y3, e3, p1, p2, p3⟩ := loop2n (F := F_X13_other_66 (nI n) (nI m) (nI q) k1) (k := k1) (n + 1) (fun i z => Same [172] y2 z ∧ z.2 = y2.2 ∧ ∀ b, b < i → z.1 172 b = nI (gw 9 m b)) (fun self z _ => by
              unfold F_X13_other_66
              rw [if_pos (nI_lt (by omega) (by omega))]) (fun self i z hi ⟨w1, w2, w3⟩ => by
              have b66 : ∀ k t, B_X13_other_89 (nI n) (nI m) (nI q) k self (nI i) t (nI i) z = self (nI (i + 1)) (sI z 172 i t) := fun k t => by
                unfold B_X13_other_89
                rw [if_pos (inb_nI (by omega) (by decide)), lt_s0, nI_clamp (by omega), nI_1]
              refine ⟨sI z 172 i (nI (gw 9 m i)), ?_, w1.tr (Same.ofI (by decide)), w2, fun b hb => ?_⟩
              · unfold F_X13_other_66
                rw [if_neg (nI_nlt (by omega) (by omega)), b66, b66]
                by_cases hi0 : i = 0
                · rw [hi0, if_pos (show nI 0 = 0 from rfl)]
                  rfl
                · rw [if_neg (show ¬ nI i = 0 from fun z => hi0 ((nI_eq (b := 0) (by omega) (by omega)).mp z))]
                  unfold gw
                  rw [if_neg hi0]
              · by_cases h1 : b = i
                · rw [h1, sI_s]
                · rw [sI_nk1 h1]; exact w3 b (by omega)) y2 ⟨Same.rf, rfl, fun b hb => by omega⟩ (by omega)
          have R3 : RB σ n r y3 := ⟨by rw [(p1 157 (by decide)).1]; exact R2.1, by unfold Cache; rw [(p1 166 (by decide)).1, (p1 165 (by decide)).1, (p1 164 (by decide)).1]; exact R2.2.1, by rw [(p1 155 (by decide)).1]; exact R2.2.2.1, by rw [(p1 155 (by decide)).1]; exact R2.2.2.2⟩
          obtain ⟨v', y4, j4, F4, o4⟩ := m_seekW (e := n) (r := r) (a := 9) (c := m) (most := q) H (by omega) n5 (by omega) q6 (by omega) (by omega) R3 (fun b hb => p3 b (by omega))
          have ev : v = v' := sh_same (n := 0) (k := 0) o7 o4
          refine ⟨v, h7, y4, ef, ?_, tp, σ, nm, K, fd, fl, tn, hA, C7.lo hA (L0.tr ((z1.lo (by decide)).tr (L2.tr ((p1.lo (by decide)).tr F4.lo)))), (N2.scr p1 (by decide)).fs F4⟩
          unfold f_X13_other
          rw [lt_s0, ← eg0, inn, bndS, if_neg (by decide), inr, bndS, if_neg (by decide), inm, bndS, if_neg (by decide), inq, bndS, if_neg (by decide), j1, bnvS, lt_s0, lt_s0, ← ey2, ← ek1, li_0, e3, ek1]
          show bnd (f_X13_shortest (nI q) (-1) y3) _ = _
          rw [j4, bndS, ev]
        · refine bad ?_ ?_
          · rw [c0]
            unfold B_X12_other_25
            rw [if_neg (by decide), c1, bndS, if_neg (by decide)]
            by_cases w1 : w < 1
            · rw [if_pos w1]
            · rw [if_neg w1, if_neg]
              intro z
              obtain ⟨j, z1, z2, z3⟩ := in_range (x := w) (a := 1) (b := 6) (by decide) (by decide) w1 (by rw [Int32.not_lt]; exact z)
              exact hw ⟨j, z1, z2, z3⟩
          · unfold f_X13_other
            rw [lt_s0, inn, bndS, if_neg (by decide), inr, bndS, if_neg (by decide), inm, bndS, if_neg (by decide)]
            rcases m_isIn w (lo := 1) (hi := 6) (a := 1) (b := 6) (sI h 155 0 0) rfl rfl (by decide) (by decide) with ⟨e, q⟩ | ⟨j, q1, q2, q3, e⟩
            · rw [e, bndS, if_pos (by decide)]
            · exact absurd ⟨j, q1, q2, q3⟩ hw
      · refine bad ?_ ?_
        · rw [c0]
          unfold B_X12_other_25
          rw [if_neg (by decide), c1, bndS, if_pos (by decide)]
        · unfold f_X13_other
          rw [lt_s0, inn, bndS, if_neg (by decide), inr, bndS, if_neg (by decide)]
          rcases m_isIn u (lo := 0) (hi := 7) (a := 0) (b := 7) (sI h 155 0 0) rfl rfl (by decide) (by decide) with ⟨e, q⟩ | ⟨j, q1, q2, q3, e⟩
          · rw [e, bndS, if_pos (by decide)]
          · exact absurd q3 (hu j (by omega))
    · refine bad ?_ ?_
      · unfold f_X12_other
        rw [if_neg cx1, if_neg cx2]
        by_cases y1 : y < 1
        · rw [if_pos y1, no0]
        · rw [if_neg y1, if_pos, no0]
          apply Classical.byContradiction
          intro z
          obtain ⟨j, z1, z2, z3⟩ := in_range (x := y) (a := 1) (b := n - 1) (by decide) (by omega) y1 (fun z' => z (by
            rw [fa_lt, nI_toInt (by omega)] at z'
            rw [fa_le, nI_toInt (by omega)]
            omega))
          exact hy ⟨j, z1, z2, z3⟩
      · unfold f_X13_other
        rw [lt_s0, inn, bndS, if_neg (by decide)]
        rcases m_isIn y (lo := 1) (hi := nI n - 1) (a := 1) (b := n - 1) (sI h 155 0 0) rfl npred (by decide) (by omega) with ⟨e, q⟩ | ⟨j, q1, q2, q3, e⟩
        · rw [e, bndS, if_pos (by decide)]
        · exact absurd ⟨j, q1, q2, q3⟩ hy
  · refine bad ?_ ?_
    · unfold f_X12_other
      by_cases x1 : x < 2
      · rw [if_pos x1, no0]
      · rw [if_neg x1, if_pos, no0]
        apply Classical.byContradiction
        intro z
        obtain ⟨j, z1, z2, z3⟩ := in_range (x := x) (a := 2) (b := 5) (by decide) (by decide) x1 z
        exact hx ⟨j, z1, z2, z3⟩
    · unfold f_X13_other
      rw [lt_s0]
      rcases m_isIn x (lo := 2) (hi := 5) (a := 2) (b := 5) (sI h 155 0 0) rfl rfl (by decide) (by decide) with ⟨e, q⟩ | ⟨j, q1, q2, q3, e⟩
      · rw [e, bndS, if_pos (by decide)]
      · exact absurd ⟨j, q1, q2, q3⟩ hx
end TK
