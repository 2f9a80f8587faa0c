section UNGQ
variable {tp : List Nat} {ρ ρ' σ : Nat → Nat} {nS nK nm N nS' nK' nm' : Nat → List Nat} {h h' gc gc1 gm : Hp} {s ed ck : Nat} {rc rm : Option (Int32 × Hp)}
/-! an option of a SAYING -/
def nxt (tp : List Nat) (s : Nat) : Nat := tkB tp 900 (tkX tp 900 s)
def opS (tp : List Nat) (s kw : Nat) : Nat := if kwT tp 900 s = kw then nxt tp (nxt tp s) else s
def opV (tp : List Nat) (s kw : Nat) : Nat := if kwT tp 900 s = kw then nbr tp (nxt tp s) else 1
def opF (tp : List Nat) (s kw lo hi : Nat) : Nat := if kwT tp 900 s = kw then nbF tp 900 (nxt tp s) lo hi else 0
theorem opF_le (s kw lo hi : Nat) : opF tp s kw lo hi ≤ 2 := by
  unfold opF
  by_cases a : kwT tp 900 s = kw
  · rw [if_pos a]; exact nbF_le _ _ _ _
  · rw [if_neg a]; omega
theorem opV_in {kw lo hi : Nat} (h1 : lo ≤ 1) (h2 : 1 ≤ hi) (hf : opF tp s kw lo hi = 0) : lo ≤ opV tp s kw ∧ opV tp s kw ≤ hi := by
  unfold opF at hf
  unfold opV
  by_cases a : kwT tp 900 s = kw
  · rw [if_pos a] at hf ⊢; exact nbF_0 hf
  · rw [if_neg a]; omega
theorem nxt_le (s : Nat) : nxt tp s ≤ tp.length ∧ nxt tp s ≤ 900 := tkB_le tp 900 _
theorem nxt_ge (hs : s ≤ tp.length) (h9 : s ≤ 900) : s ≤ nxt tp s := tkB_ge (by omega)
theorem opS_ok {kw : Nat} (hs : s ≤ tp.length) (h9 : s ≤ 900) : s ≤ opS tp s kw ∧ opS tp s kw ≤ tp.length ∧ opS tp s kw ≤ 900 := by
  have a := nxt_ge hs h9
  have b := nxt_le (tp := tp) s
  have c := nxt_ge b.1 b.2
  have d := nxt_le (tp := tp) (nxt tp s)
  unfold opS
  by_cases z : kwT tp 900 s = kw
  · rw [if_pos z]; omega
  · rw [if_neg z]; omega
theorem c_option {x1 x2 k lo hi : Nat} (T : Tp tp) (hs : s ≤ tp.length) (B : CT1 tp 900 s h) (h4 : h.2.2 4 1 = 142) (hc : h.1 142 2 = nI (k + 1)) (hk : k < 8) (hx : aln x2 = 8) (hx2 : x2 ∉ [2, 3, 4, 5, 142]) (hlo : lo < 1000) (hhi : hi < 1000) : (opF tp s x1 lo hi = 0 → ∃ h', f_X6_readOption x1 x2 (nI lo) (nI hi) h = some (1, h') ∧ CT1 tp 900 (opS tp s x1) h' ∧ Same [5, x2] h h' ∧ h'.1 x2 k = nI (opV tp s x1) ∧ ∀ j, j ≠ k → h'.1 x2 j = h.1 x2 j) ∧ (opF tp s x1 lo hi ≠ 0 → ∃ h', f_X6_readOption x1 x2 (nI lo) (nI hi) h = some (0, h') ∧ h'.1 4 4 = nI (opF tp s x1 lo hi) ∧ h'.1 4 5 = nI (nxt tp s) ∧ Same [4, 5, x2] h h') := by
  have i8 : isO 8 142 = true := by decide
  simp only [List.mem_cons, List.not_mem_nil, or_false, not_or] at hx2
  have nX : 2 ∉ [x2] ∧ 3 ∉ [x2] ∧ 5 ∉ [x2] := by
    simp only [List.mem_cons, List.not_mem_nil, or_false]
    omega
  obtain ⟨g0, hg0⟩ : ∃ g0, g0 = sI h x2 k 1 := ⟨_, rfl⟩
  have S0 : Same [x2] h g0 := by rw [hg0]; exact Same.ofI (List.mem_cons_self ..)
  have B0 : CT1 tp 900 s g0 := B.same S0 nX
  have st : f_X6_readOption x1 x2 (nI lo) (nI hi) h = (if kwT tp 900 s = x1 then bnv (f_X9_advance g0) fun h11 => bnd (f_X6_numberHere (nI lo) (nI hi) h11) fun v13 h12 => (if 0 ≤ v13 then (lt (sI h12 x2 k v13) fun h16 => bnv (f_X9_advance h16) fun h17 => some (1, h17)) else some (0, h12)) else some (1, g0)) := by
    unfold f_X6_readOption
    rw [h4, lt_s1, if_pos i8, hc, show (nI (k + 1) - 1 : Int32) = nI k by rw [li_1, subN (by omega), Nat.add_sub_cancel], lt_s1, if_neg (show ¬ nI k < 0 from nI_nlt (b := 0) (by omega) (by omega)), hx, if_pos (show nI k < Int32.ofNat 8 from nI_lt (b := 8) hk (by omega)), if_pos (inb_nI hk (by decide)), clp (by omega), lt_s1, ← hg0, c_kw B0, lt_s1, if_pos (kwT_kw 900 s)]
    simp only [if_pos (show inb (nI k) 8 = true from inb_nI hk (by decide))]
  unfold opF opS opV
  rw [st]
  by_cases a : kwT tp 900 s = x1
  · simp only [if_pos a]
    obtain ⟨g1, e1, q1, q2, B1⟩ := c_adv (L := 900) T (by omega) hs B0
    have n1 := nxt_le (tp := tp) s
    have B1' : CT1 tp 900 (nxt tp s) g1 := B1
    rw [e1, bnvS, c_numberHere B1' hlo hhi]
    refine ⟨fun hf => ?_, fun hf => ?_⟩
    · have n9 : nbr tp (nxt tp s) < 1000 := by have := (nbF_0 hf).2; omega
      rw [if_pos hf, bndS, if_pos (show (0 : Int32) ≤ nI (nbr tp (nxt tp s)) from nI_le (a := 0) (by omega) (by omega)), lt_s1]
      have S1 : Same [x2] g1 (sI g1 x2 k (nI (nbr tp (nxt tp s)))) := Same.ofI (List.mem_cons_self ..)
      obtain ⟨g2, e2, q3, q4, B2⟩ := c_adv (L := 900) T (by omega) n1.1 (B1'.same S1 nX)
      have n5 : x2 ∉ [5] := by simp only [List.mem_cons, List.not_mem_nil, or_false]; omega
      rw [e2, bnvS]
      refine ⟨g2, rfl, B2, ?_, ?_, fun j hj => ?_⟩
      · have m1 : ∀ q, q ∈ [x2] → q ∈ [5, x2] := fun q hq => List.mem_cons_of_mem _ hq
        have m2 : ∀ q, q ∈ [5] → q ∈ [5, x2] := fun q hq => by rw [List.mem_singleton.mp hq]; exact List.mem_cons_self ..
        exact ((S0.mono m1).tr (q1.mono m2)).tr ((S1.mono m1).tr (q3.mono m2))
      · rw [(q3 x2 n5).1]; exact sI_s
      · rw [(q3 x2 n5).1, sI_nk1 hj, (q1 x2 n5).1, hg0, sI_nk1 hj]
    · rw [if_neg hf, bndS, if_neg (show ¬ (0 : Int32) ≤ -1 by decide)]
      have m1 : ∀ q, q ∈ [x2] → q ∈ [4, 5, x2] := fun q hq => List.mem_cons_of_mem _ (List.mem_cons_of_mem _ hq)
      have m2 : ∀ q, q ∈ [5] → q ∈ [4, 5, x2] := fun q hq => by rw [List.mem_singleton.mp hq]; exact List.mem_cons_of_mem _ (List.mem_cons_self ..)
      exact ⟨_, rfl, gfF_4 _ _ _, gfF_5 _ _ _, ((S0.mono m1).tr (q1.mono m2)).tr ((Same.ofI (List.mem_cons_self ..)).tr (Same.ofI (List.mem_cons_self ..)))⟩
  · simp only [if_neg a]
    refine ⟨fun _ => ⟨g0, rfl, B0, S0.mono (fun q hq => List.mem_cons_of_mem _ hq), ?_, fun j hj => ?_⟩, fun z => absurd rfl z⟩
    · rw [hg0]; exact sI_s
    · rw [hg0, sI_nk1 hj]
/-- the reference's -/
def mOp (w : Int64) (lo hi pos : Int32) (K : Hp → Option (Int32 × Hp)) (h : Hp) : Option (Int32 × Hp) :=
  bnd (f_X13_isWord w h) fun v16 h15 =>
  (if v16 = 0 then
    K h15
  else
    bnv (f_X13_next h15) fun h43 =>
    bnd (f_X13_takes lo hi h43) fun v45 h44 =>
    (if v45 = 0 then
      some (0, h44)
    else
      if inb pos 437 = true then
      lt (sI h44 158 (pos.toNatClampNeg) (h44.1 155 17)) fun h48 =>
      K h48
      else none))
theorem m_option {i v lo hi p : Nat} {w : Int64} {lo' hi' pos : Int32} {K : Hp → Option (Int32 × Hp)} (T : Tp tp) (M : SM tp s ρ nS nK nm ed ck h) (hi16 : i < 16) (hv : nmM (kwL.getD i []) = v) (hw : w = lN v) (hl : lo' = nI lo) (hh : hi' = nI hi) (hpo : pos = nI p) (hp3 : 3 ≤ p) (hp : p < 437) (e1 : ρ p = 1) (hlo : lo < 1000) (hhi : hi < 1000) : (opF tp s (300 + i) lo hi = 0 → ∃ h', mOp w lo' hi' pos K h = K h' ∧ (∀ ρ', ρ' p = opV tp s (300 + i) → (∀ j, j ≠ p → ρ' j = ρ j) → SM tp (opS tp s (300 + i)) ρ' nS nK nm ed ck h') ∧ unM h h' ∧ h'.1 155 18 = h.1 155 18 ∧ h'.2.1 159 = h.2.1 159) ∧ (opF tp s (300 + i) lo hi ≠ 0 → ∃ h', mOp w lo' hi' pos K h = some (0, h') ∧ h'.1 155 14 = nI (opF tp s (300 + i) lo hi) ∧ h'.1 155 15 = nI (nxt tp s) ∧ unM h h') := by
  unfold mOp opF opS opV
  rw [hw, hl, hh, hpo, mw hi16 hv M.1, bndS]
  by_cases a : kwT tp 900 s = 300 + i
  · simp only [if_pos a]
    rw [decide_eq_true a, if_neg (show ¬ nI true.toNat = 0 by decide)]
    obtain ⟨g1, b1, b2, b3, M1⟩ := M.nx5 T
    have M1' : SM tp (nxt tp s) ρ nS nK nm ed ck g1 := M1
    rw [b1, bnvS, m_takesT M1'.1 hlo hhi]
    refine ⟨fun hf => ?_, fun hf => ?_⟩
    · have n9 : nbr tp (nxt tp s) < 1000 := by have := (nbF_0 hf).2; omega
      obtain ⟨g2, b4, b5, b6, M2⟩ := (M1'.put (k := 17) (v := nI (nbr tp (nxt tp s))) (by decide)).nx5 T
      have M2' : SM tp (nxt tp (nxt tp s)) ρ nS nK nm ed ck g2 := M2
      have t17 : g2.1 155 17 = nI (nbr tp (nxt tp s)) := by rw [b6.1 17 (by decide)]; exact sI_s
      rw [if_pos hf, b4, bnvS, bndS, if_neg (show ¬ (1 : Int32) = 0 by decide), if_pos (inb_nI hp (by decide)), clp (by omega), t17, lt_s1]
      refine ⟨_, rfl, fun ρ' r1 r2 => M2'.of (Same.ofI (X := [158]) (by decide)) (by decide) (M2'.2.1.upd hp3 r1 r2), ?_, ?_, ?_⟩
      · exact ((unM.ofF b2 b3).tr ((unM.ofI155 (k := 17) (by decide)).tr (unM.ofF b5 b6))).tr unM.ofI158
      · rw [sI_ne1 (by decide), b6.1 18 (by decide), sI_nk1 (by decide)]; exact b3.1 18 (by decide)
      · show g2.2.1 159 = _
        rw [(b5 159 (by decide)).2.1]
        exact (b2 159 (by decide)).2.1
    · rw [if_neg hf, bndS, if_pos (show (0 : Int32) = 0 from rfl)]
      exact ⟨_, rfl, mfF_14 _ _ _, mfF_15 _ _ _, (unM.ofF b2 b3).tr unM.fault⟩
  · simp only [if_neg a]
    rw [decide_eq_false a, if_pos (show nI false.toNat = 0 from rfl)]
    refine ⟨fun _ => ⟨h, rfl, fun ρ' r1 r2 => ?_, unM.rf, rfl, rfl⟩, fun z => absurd rfl z⟩
    have : ρ' = ρ := funext fun j => by
      by_cases z : j = p
      · rw [z, r1, e1]
      · exact r2 j z
    rw [this]; exact M
theorem wB115 (x1 : Int32) (h : Hp) : B_X13_readWord_115 x1 h = mOp 131277443786867 1 60 (48 + x1) (B_X13_readWord_154 x1) h := rfl
theorem wB154 (x1 : Int32) (h : Hp) : B_X13_readWord_154 x1 h = mOp 427071599731 0 99 (56 + x1) (B_X13_readWord_193 x1) h := rfl
theorem wBrw (h : Hp) : f_X13_readWord h = (lt (h.1 158 ((2 : Int32).toNatClampNeg)) fun v1 =>
  (if v1 = 8 then
    bnd (f_X13_bad 4 h) fun v50 h49 =>
    if isZ v50 = true then
    some (v50, h49)
    else none
  else
    bnv (f_X13_next h) fun h3 =>
    bnd (f_X13_fresh (24 + v1) h3) fun v5 h4 =>
    (if v5 = 0 then
      some (0, h4)
    else
      if inb (40 + v1) 437 = true then
      lt (sI h4 158 ((40 + v1).toNatClampNeg) 1) fun h8 =>
      if inb (48 + v1) 437 = true then
      lt (sI h8 158 ((48 + v1).toNatClampNeg) 1) fun h10 =>
      if inb (56 + v1) 437 = true then
      lt (sI h10 158 ((56 + v1).toNatClampNeg) 1) fun h12 =>
      if inb (64 + v1) 437 = true then
      lt (sI h12 158 ((64 + v1).toNatClampNeg) 0) fun h14 =>
      mOp 422607680627 0 9 (40 + v1) (B_X13_readWord_115 v1) h14
      else none
      else none
      else none
      else none))) := rfl
/-! a SAYING more -/
def woS (ρ : Nat → Nat) (a b c d : Nat) : Nat → Nat := fun j => if j = 40 + ρ 2 then a else if j = 48 + ρ 2 then b else if j = 56 + ρ 2 then c else if j = 64 + ρ 2 then d else ρ j
def woF (ρ : Nat → Nat) (a b c d : Nat) : Nat → Nat := fun j => if j = 2 then ρ 2 + 1 else woS ρ a b c d j
def woN (ρ : Nat → Nat) (nm : Nat → List Nat) (l : List Nat) : Nat → List Nat := fun i => if i = ρ 2 then l else nm i
theorem woS_o {a b c d j : Nat} (h1 : j ≠ 40 + ρ 2) (h2 : j ≠ 48 + ρ 2) (h3 : j ≠ 56 + ρ 2) (h4 : j ≠ 64 + ρ 2) : woS ρ a b c d j = ρ j := by unfold woS; rw [if_neg h1, if_neg h2, if_neg h3, if_neg h4]
theorem woS_a (a b c d : Nat) : woS ρ a b c d (40 + ρ 2) = a := if_pos rfl
theorem woS_b (a b c d : Nat) : woS ρ a b c d (48 + ρ 2) = b := by unfold woS; rw [if_neg (by omega), if_pos rfl]
theorem woS_c (a b c d : Nat) : woS ρ a b c d (56 + ρ 2) = c := by unfold woS; rw [if_neg (by omega), if_neg (by omega), if_pos rfl]
theorem woS_d (a b c d : Nat) : woS ρ a b c d (64 + ρ 2) = d := by unfold woS; rw [if_neg (by omega), if_neg (by omega), if_neg (by omega), if_pos rfl]
theorem woS_na {a a' b c d j : Nat} (hj : j ≠ 40 + ρ 2) : woS ρ a b c d j = woS ρ a' b c d j := by unfold woS; rw [if_neg hj, if_neg hj]
theorem woS_nb {a b b' c d j : Nat} (hj : j ≠ 48 + ρ 2) : woS ρ a b c d j = woS ρ a b' c d j := by unfold woS; rw [if_neg hj, if_neg hj]
theorem woS_nc {a b c c' d j : Nat} (hj : j ≠ 56 + ρ 2) : woS ρ a b c d j = woS ρ a b c' d j := by unfold woS; rw [if_neg hj, if_neg hj]
theorem woS_nd {a b c d d' j : Nat} (hj : j ≠ 64 + ρ 2) : woS ρ a b c d j = woS ρ a b c d' j := by unfold woS; rw [if_neg hj, if_neg hj]
theorem woF_2 (a b c d : Nat) : woF ρ a b c d 2 = ρ 2 + 1 := if_pos rfl
theorem woF_n {a b c d j : Nat} (hj : j ≠ 2) : woF ρ a b c d j = woS ρ a b c d j := if_neg hj
theorem woF_o {a b c d j : Nat} (hj : j ≠ 2) (h1 : j ≠ 40 + ρ 2) (h2 : j ≠ 48 + ρ 2) (h3 : j ≠ 56 + ρ 2) (h4 : j ≠ 64 + ρ 2) : woF ρ a b c d j = ρ j := by rw [woF_n hj, woS_o h1 h2 h3 h4]
theorem idl_wo {a b c d : Nat} (H : TgOk ρ nm) (hk : ρ 2 < 8) : idl (woF ρ a b c d) = idl ρ + d * 2 ^ ρ 2 ∧ idl ρ < 2 ^ ρ 2 := by
  have z : ∀ j, ρ 2 ≤ j → j < 8 → ρ (64 + j) = 0 := fun j h1 h2 => (H.2.2.2.2.2.1 j h1 h2).1
  have l : ∀ j, j < 8 → ρ (64 + j) ≤ 1 := fun j hj => H.2.2.2.2.1 _ (by omega) (by omega)
  have l0 : ρ 64 ≤ 1 := l 0 (by omega)
  have l1 : ρ 65 ≤ 1 := l 1 (by omega)
  have l2 : ρ 66 ≤ 1 := l 2 (by omega)
  have l3 : ρ 67 ≤ 1 := l 3 (by omega)
  have l4 : ρ 68 ≤ 1 := l 4 (by omega)
  have l5 : ρ 69 ≤ 1 := l 5 (by omega)
  have l6 : ρ 70 ≤ 1 := l 6 (by omega)
  have l7 : ρ 71 ≤ 1 := l 7 (by omega)
  have v : ∀ j, j < 8 → woF ρ a b c d (64 + j) = if j = ρ 2 then d else ρ (64 + j) := fun j hj => by
    by_cases q : j = ρ 2
    · rw [if_pos q, q, woF_n (by omega), woS_d]
    · rw [if_neg q, woF_o (by omega) (by omega) (by omega) (by omega) (by omega)]
  have e0 : woF ρ a b c d 64 = if 0 = ρ 2 then d else ρ 64 := v 0 (by omega)
  have e1 : woF ρ a b c d 65 = if 1 = ρ 2 then d else ρ 65 := v 1 (by omega)
  have e2 : woF ρ a b c d 66 = if 2 = ρ 2 then d else ρ 66 := v 2 (by omega)
  have e3 : woF ρ a b c d 67 = if 3 = ρ 2 then d else ρ 67 := v 3 (by omega)
  have e4 : woF ρ a b c d 68 = if 4 = ρ 2 then d else ρ 68 := v 4 (by omega)
  have e5 : woF ρ a b c d 69 = if 5 = ρ 2 then d else ρ 69 := v 5 (by omega)
  have e6 : woF ρ a b c d 70 = if 6 = ρ 2 then d else ρ 70 := v 6 (by omega)
  have e7 : woF ρ a b c d 71 = if 7 = ρ 2 then d else ρ 71 := v 7 (by omega)
  rw [show idl (woF ρ a b c d) = woF ρ a b c d 64 + woF ρ a b c d 65 * 2 + woF ρ a b c d 66 * 4 + woF ρ a b c d 67 * 8 + woF ρ a b c d 68 * 16 + woF ρ a b c d 69 * 32 + woF ρ a b c d 70 * 64 + woF ρ a b c d 71 * 128 from rfl]
  rcases (show ρ 2 = 0 ∨ ρ 2 = 1 ∨ ρ 2 = 2 ∨ ρ 2 = 3 ∨ ρ 2 = 4 ∨ ρ 2 = 5 ∨ ρ 2 = 6 ∨ ρ 2 = 7 by omega) with r | r | r | r | r | r | r | r
  · rw [if_pos (by omega)] at e0; rw [if_neg (by omega)] at e1; rw [if_neg (by omega)] at e2; rw [if_neg (by omega)] at e3; rw [if_neg (by omega)] at e4; rw [if_neg (by omega)] at e5; rw [if_neg (by omega)] at e6; rw [if_neg (by omega)] at e7
    have z0 : ρ 64 = 0 := z 0 (by omega) (by omega)
    have z1 : ρ 65 = 0 := z 1 (by omega) (by omega)
    have z2 : ρ 66 = 0 := z 2 (by omega) (by omega)
    have z3 : ρ 67 = 0 := z 3 (by omega) (by omega)
    have z4 : ρ 68 = 0 := z 4 (by omega) (by omega)
    have z5 : ρ 69 = 0 := z 5 (by omega) (by omega)
    have z6 : ρ 70 = 0 := z 6 (by omega) (by omega)
    have z7 : ρ 71 = 0 := z 7 (by omega) (by omega)
    rw [e0, e1, e2, e3, e4, e5, e6, e7, r]
    have q : (2 : Nat) ^ 0 = 1 := by decide
    rw [q]; unfold idl; omega
  · rw [if_neg (by omega)] at e0; rw [if_pos (by omega)] at e1; rw [if_neg (by omega)] at e2; rw [if_neg (by omega)] at e3; rw [if_neg (by omega)] at e4; rw [if_neg (by omega)] at e5; rw [if_neg (by omega)] at e6; rw [if_neg (by omega)] at e7
    have z1 : ρ 65 = 0 := z 1 (by omega) (by omega)
    have z2 : ρ 66 = 0 := z 2 (by omega) (by omega)
    have z3 : ρ 67 = 0 := z 3 (by omega) (by omega)
    have z4 : ρ 68 = 0 := z 4 (by omega) (by omega)
    have z5 : ρ 69 = 0 := z 5 (by omega) (by omega)
    have z6 : ρ 70 = 0 := z 6 (by omega) (by omega)
    have z7 : ρ 71 = 0 := z 7 (by omega) (by omega)
    rw [e0, e1, e2, e3, e4, e5, e6, e7, r]
    have q : (2 : Nat) ^ 1 = 2 := by decide
    rw [q]; unfold idl; omega
  · rw [if_neg (by omega)] at e0; rw [if_neg (by omega)] at e1; rw [if_pos (by omega)] at e2; rw [if_neg (by omega)] at e3; rw [if_neg (by omega)] at e4; rw [if_neg (by omega)] at e5; rw [if_neg (by omega)] at e6; rw [if_neg (by omega)] at e7
    have z2 : ρ 66 = 0 := z 2 (by omega) (by omega)
    have z3 : ρ 67 = 0 := z 3 (by omega) (by omega)
    have z4 : ρ 68 = 0 := z 4 (by omega) (by omega)
    have z5 : ρ 69 = 0 := z 5 (by omega) (by omega)
    have z6 : ρ 70 = 0 := z 6 (by omega) (by omega)
    have z7 : ρ 71 = 0 := z 7 (by omega) (by omega)
    rw [e0, e1, e2, e3, e4, e5, e6, e7, r]
    have q : (2 : Nat) ^ 2 = 4 := by decide
    rw [q]; unfold idl; omega
  · rw [if_neg (by omega)] at e0; rw [if_neg (by omega)] at e1; rw [if_neg (by omega)] at e2; rw [if_pos (by omega)] at e3; rw [if_neg (by omega)] at e4; rw [if_neg (by omega)] at e5; rw [if_neg (by omega)] at e6; rw [if_neg (by omega)] at e7
    have z3 : ρ 67 = 0 := z 3 (by omega) (by omega)
    have z4 : ρ 68 = 0 := z 4 (by omega) (by omega)
    have z5 : ρ 69 = 0 := z 5 (by omega) (by omega)
    have z6 : ρ 70 = 0 := z 6 (by omega) (by omega)
    have z7 : ρ 71 = 0 := z 7 (by omega) (by omega)
    rw [e0, e1, e2, e3, e4, e5, e6, e7, r]
    have q : (2 : Nat) ^ 3 = 8 := by decide
    rw [q]; unfold idl; omega
  · rw [if_neg (by omega)] at e0; rw [if_neg (by omega)] at e1; rw [if_neg (by omega)] at e2; rw [if_neg (by omega)] at e3; rw [if_pos (by omega)] at e4; rw [if_neg (by omega)] at e5; rw [if_neg (by omega)] at e6; rw [if_neg (by omega)] at e7
    have z4 : ρ 68 = 0 := z 4 (by omega) (by omega)
    have z5 : ρ 69 = 0 := z 5 (by omega) (by omega)
    have z6 : ρ 70 = 0 := z 6 (by omega) (by omega)
    have z7 : ρ 71 = 0 := z 7 (by omega) (by omega)
    rw [e0, e1, e2, e3, e4, e5, e6, e7, r]
    have q : (2 : Nat) ^ 4 = 16 := by decide
    rw [q]; unfold idl; omega
  · rw [if_neg (by omega)] at e0; rw [if_neg (by omega)] at e1; rw [if_neg (by omega)] at e2; rw [if_neg (by omega)] at e3; rw [if_neg (by omega)] at e4; rw [if_pos (by omega)] at e5; rw [if_neg (by omega)] at e6; rw [if_neg (by omega)] at e7
    have z5 : ρ 69 = 0 := z 5 (by omega) (by omega)
    have z6 : ρ 70 = 0 := z 6 (by omega) (by omega)
    have z7 : ρ 71 = 0 := z 7 (by omega) (by omega)
    rw [e0, e1, e2, e3, e4, e5, e6, e7, r]
    have q : (2 : Nat) ^ 5 = 32 := by decide
    rw [q]; unfold idl; omega
  · rw [if_neg (by omega)] at e0; rw [if_neg (by omega)] at e1; rw [if_neg (by omega)] at e2; rw [if_neg (by omega)] at e3; rw [if_neg (by omega)] at e4; rw [if_neg (by omega)] at e5; rw [if_pos (by omega)] at e6; rw [if_neg (by omega)] at e7
    have z6 : ρ 70 = 0 := z 6 (by omega) (by omega)
    have z7 : ρ 71 = 0 := z 7 (by omega) (by omega)
    rw [e0, e1, e2, e3, e4, e5, e6, e7, r]
    have q : (2 : Nat) ^ 6 = 64 := by decide
    rw [q]; unfold idl; omega
  · rw [if_neg (by omega)] at e0; rw [if_neg (by omega)] at e1; rw [if_neg (by omega)] at e2; rw [if_neg (by omega)] at e3; rw [if_neg (by omega)] at e4; rw [if_neg (by omega)] at e5; rw [if_neg (by omega)] at e6; rw [if_pos (by omega)] at e7
    have z7 : ρ 71 = 0 := z 7 (by omega) (by omega)
    rw [e0, e1, e2, e3, e4, e5, e6, e7, r]
    have q : (2 : Nat) ^ 7 = 128 := by decide
    rw [q]; unfold idl; omega
theorem RgC.word {l : List Nat} {a b c d : Nat} (H : TgOk ρ nm) (hk : ρ 2 < 8) (R : RgC h 142 ρ nS nK nm) (q : Same [5, 142, 147, 148, 149] h h') (q1 : h'.1 142 2 = nI (ρ 2 + 1)) (q2 : ∀ j, j ≠ 2 → j ≠ 11 → h'.1 142 j = h.1 142 j) (q3 : h'.2.1 142 = h.2.1 142) (q4 : h'.1 142 11 = nI (idl ρ + d * 2 ^ ρ 2)) (q5 : h'.1 147 (ρ 2) = nI a ∧ ∀ j, j ≠ ρ 2 → h'.1 147 j = h.1 147 j) (q6 : h'.1 148 (ρ 2) = nI b ∧ ∀ j, j ≠ ρ 2 → h'.1 148 j = h.1 148 j) (q7 : h'.1 149 (ρ 2) = nI c ∧ ∀ j, j ≠ ρ 2 → h'.1 149 j = h.1 149 j) (n1 : h.1 143 (8 + ρ 2) = nI (nmC l)) : RgC h' 142 (woF ρ a b c d) nS nK (woN ρ nm l) := by
  obtain ⟨⟨a1, a2, a3, a4, a5⟩, ⟨b1, b2, b3⟩, c', ⟨d1, d2⟩, e, ⟨f1, f2⟩, g⟩ := R
  have o : ∀ k, (k < 40 ∨ 72 ≤ k) → k ≠ 2 → woF ρ a b c d k = ρ k := fun k hk h2 => woF_o h2 (by omega) (by omega) (by omega) (by omega)
  have i0 : ∀ c, c ∉ [5, 142, 147, 148, 149] → h'.1 c = h.1 c := fun c hc => (q c hc).1
  unfold RgC
  rw [woF_2, o 0 (by omega) (by omega), o 1 (by omega) (by omega), o 3 (by omega) (by omega), o 4 (by omega) (by omega), q2 0 (by decide) (by decide), q2 1 (by decide) (by decide), q3, i0 (142 + 1) (by decide), i0 (142 + 2) (by decide), i0 (142 + 3) (by decide), (q (142 + 4) (by decide)).2.1, i0 (142 + 8) (by decide), i0 (142 + 9) (by decide), ens_u (fun j _ _ => o j (by omega) (by omega)), (idl_wo (a := a) (b := b) (c := c) (d := d) H hk).1]
  refine ⟨⟨a1, a2, q1, a4, a5⟩, ⟨b1, b2, fun w hw => ?_⟩, fun k k1 k2 => ?_, ⟨fun k hk => ?_, d2⟩, fun w hw => ?_, ⟨fun w hw => ?_, q4⟩, fun i hi => ?_⟩
  · unfold woN
    by_cases z : w = ρ 2
    · rw [if_pos z, z]; exact n1
    · rw [if_neg z]; exact b3 w (by omega)
  · rw [o _ (by omega) (by omega)]; exact c' k k1 k2
  · rw [ahd_u (fun j _ _ => o j (by omega) (by omega)) hk]; exact d1 k hk
  · show h'.1 147 w = _ ∧ h'.1 148 w = _ ∧ h'.1 149 w = _
    by_cases z : w = ρ 2
    · rw [z, woF_n (by omega), woF_n (by omega), woF_n (by omega), woS_a, woS_b, woS_c]
      exact ⟨q5.1, q6.1, q7.1⟩
    · rw [woF_o (by omega) (by omega) (by omega) (by omega) (by omega), woF_o (by omega) (by omega) (by omega) (by omega) (by omega), woF_o (by omega) (by omega) (by omega) (by omega) (by omega), q5.2 w z, q6.2 w z, q7.2 w z]
      exact e w (by omega)
  · rw [rds_u (fun j _ _ => o j (by omega) (by omega)) hw]; exact f1 w hw
  · rw [mk_u (fun j _ _ => o j (by omega) (by omega)) hi]; exact g i hi
theorem RgM.word {l : List Nat} {a b c d : Nat} (hk : ρ 2 < 8) (R : RgM h (woS ρ a b c d) nS nK nm) (n1 : h.2.1 159 (24 + ρ 2) = lN (nmM l)) : RgM (sI h 158 2 (nI (ρ 2 + 1))) (woF ρ a b c d) nS nK (woN ρ nm l) := by
  obtain ⟨a1, a2, a3, a4⟩ := R
  have o : ∀ j, j < 40 → woS ρ a b c d j = ρ j := fun j hj => woS_o (by omega) (by omega) (by omega) (by omega)
  rw [o 0 (by omega)] at a2
  rw [o 1 (by omega)] at a3
  rw [o 2 (by omega)] at a4
  refine ⟨fun k hk => ?_, fun i hi => ?_, fun i hi => ?_, fun w hw => ?_⟩
  · by_cases z : k = 2
    · rw [z, sI_s, woF_2]
    · rw [sI_nk1 z, woF_n z]; exact a1 k hk
  · rw [woF_n (by decide), o 0 (by omega)] at hi; exact a2 i hi
  · rw [woF_n (by decide), o 1 (by omega)] at hi; exact a3 i hi
  · rw [woF_2] at hw
    unfold woN
    by_cases z : w = ρ 2
    · rw [if_pos z, z]; exact n1
    · rw [if_neg z]; exact a4 w (by omega)
theorem RgOk.word {l : List Nat} {a b c d : Nat} (h0 : ρ 2 < 8) (hl : okNm l) (ha : a ≤ 9) (hb : 1 ≤ b ∧ b ≤ 60) (hc : c ≤ 99) (hd : d ≤ 1) (R : RgOk ρ nS nK nm) : RgOk (woF ρ a b c d) nS nK (woN ρ nm l) := by
  obtain ⟨⟨⟨b1, b2, b3, b4⟩, c1, c2, c3, c4, c5, c6, c7⟩, d', e'⟩ := R
  have o : ∀ k, (k < 40 ∨ 72 ≤ k) → k ≠ 2 → woF ρ a b c d k = ρ k := fun k hk h2 => woF_o h2 (by omega) (by omega) (by omega) (by omega)
  have o0 := o 0 (by omega) (by omega)
  have o1 := o 1 (by omega) (by omega)
  refine ⟨⟨?_, fun k k1 k2 => ?_, fun k k1 k2 => ?_, fun w hw => ?_, fun k k1 k2 => ?_, fun w w1 w2 => ?_, fun i hi => ?_, fun k k1 k2 => ?_⟩, ?_, ?_⟩
  · rw [woF_2, o0, o1, o 3 (by omega) (by omega), o 4 (by omega) (by omega)]; exact ⟨b1, b2, by omega, b4⟩
  · rw [o k (by omega) (by omega)]; exact c1 k k1 k2
  · rw [o0] at k1
    obtain ⟨z1, z2, z3, z4⟩ := c2 k k1 k2
    refine ⟨by rw [o _ (by omega) (by omega)]; exact z1, by rw [o _ (by omega) (by omega)]; exact z2, fun p hp => ⟨by rw [o _ (by omega) (by omega)]; exact (z3 p hp).1, by rw [o _ (by omega) (by omega)]; exact (z3 p hp).2⟩, fun w hw => by rw [o _ (by omega) (by omega)]; exact z4 w hw⟩
  · rw [woF_2] at hw
    unfold woN
    by_cases z : w = ρ 2
    · rw [z, woF_n (by omega), woF_n (by omega), woF_n (by omega), woS_a, woS_b, woS_c, if_pos rfl]
      exact ⟨ha, hb.1, hb.2, hc, hl⟩
    · rw [woF_o (by omega) (by omega) (by omega) (by omega) (by omega), woF_o (by omega) (by omega) (by omega) (by omega) (by omega), woF_o (by omega) (by omega) (by omega) (by omega) (by omega), if_neg z]
      exact c3 w (by omega)
  · by_cases z : k = 64 + ρ 2
    · rw [z, woF_n (by omega), woS_d]; exact hd
    · rw [woF_o (by omega) (by omega) (by omega) (by omega) z]; exact c4 k k1 k2
  · rw [woF_2] at w1
    exact ⟨by rw [woF_o (by omega) (by omega) (by omega) (by omega) (by omega)]; exact (c5 w (by omega) w2).1, fun k hk => by rw [o _ (by omega) (by omega)]; exact (c5 w (by omega) w2).2 k hk⟩
  · rw [o _ (by omega) (by omega)]; exact c6 i hi
  · rw [o _ (by omega) (by omega)]; exact c7 k k1 k2
  · rw [o0]; exact d'
  · rw [o1]; exact e'
end UNGQ
