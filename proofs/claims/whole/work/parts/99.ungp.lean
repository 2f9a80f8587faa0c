section UNGP
variable {tp : List Nat} {ρ ρ' σ : Nat → Nat} {nS nK nm N nS' nK' nm' : Nat → List Nat} {h h' gc gc1 gm : Hp} {s ed ck : Nat} {rc rm : Option (Int32 × Hp)}
theorem itr1_s {A β : Type} (F : (A → Option β) → A → Option β) (n : Nat) (a : A) : itr1 F (n + 1) a = F (itr1 F n) a := rfl
theorem itr4_s {A B C D β : Type} (F : (A → B → C → D → Option β) → A → B → C → D → Option β) (n : Nat) (a : A) (b : B) (c : C) (d : D) : itr4 F (n + 1) a b c d = F (itr4 F n) a b c d := rfl
theorem kwT_kw (L s : Nat) : isKw (kwT tp L s) = true := by
  unfold kwT
  by_cases h1 : tkQ tp L s = 1
  · rw [if_pos h1]; exact kwId_kw _
  · rw [if_neg h1]; rfl
theorem mw {i v L : Nat} (hi : i < 16) (hv : nmM (kwL.getD i []) = v) (B : MT1 tp L s h) : f_X13_isWord (lN v) h = some (nI (decide (kwT tp L s = 300 + i)).toNat, h) := by
  have := m_isWordT hi B
  rw [hv] at this
  exact this
theorem c_be (B : CT1 tp 900 s h) : f_X6_isBeginsOrEnds h = some (nI (decide (kwT tp 900 s = 301) || decide (kwT tp 900 s = 302)).toNat, h) := by
  unfold f_X6_isBeginsOrEnds
  rw [c_kw B, lt_s1, if_pos (kwT_kw 900 s)]
  by_cases a : kwT tp 900 s = 301
  · rw [if_pos a, decide_eq_true a]; rfl
  · rw [if_neg a, lt_s1, if_pos (kwT_kw 900 s), decide_eq_false a]
    by_cases b : kwT tp 900 s = 302
    · rw [if_pos b, decide_eq_true b]; rfl
    · rw [if_neg b, decide_eq_false b]; rfl
theorem c_so1 {b e i : Nat} (hb : b ≤ 1) (he : e ≤ 1) (hi : i ≤ 2) (B : CT1 tp 900 s h) (x : Int32) (k97 k104 : Hp → Option (Int32 × Hp)) (k141 : Int32 → Int32 → Hp → Option (Int32 × Hp)) (self : Int32 → Int32 → Int32 → Hp → Option (Int32 × Hp)) : F_X6_readSort_55 x k97 k104 k141 self (nI b) (nI e) (nI i) h = if i = 2 then k141 (nI b) (nI e) h else if kwT tp 900 s = 301 then (if b = 0 then bnv (f_X9_advance h) fun h25 => self (nI 1) (nI e) (nI (i + 1)) h25 else k97 h) else if kwT tp 900 s = 302 then (if e = 0 then bnv (f_X9_advance h) fun h25 => self (nI b) (nI 1) (nI (i + 1)) h25 else k104 h) else k141 (nI b) (nI e) h := by
  have n10 : ¬ (1 : Int32) = 0 := by decide
  unfold F_X6_readSort_55
  by_cases i2 : i = 2
  · rw [if_pos i2, if_pos (show (2 : Int32) ≤ nI i by rw [i2]; decide)]
  · rw [if_neg i2, if_neg (show ¬ (2 : Int32) ≤ nI i from nI_ge (b := 2) (a := i) (by omega) (by omega)), c_be B, bndS]
    by_cases a : kwT tp 900 s = 301
    · rw [decide_eq_true a, Bool.true_or, if_neg (show ¬ nI true.toNat = 0 by decide), if_pos a, c_kw B, lt_s1, if_pos (kwT_kw 900 s), if_pos a]
      unfold B_X6_readSort_86
      rw [if_neg n10]
      by_cases b0 : b = 0
      · rw [if_pos b0, if_pos (show nI b = 0 by rw [b0]; rfl)]
        unfold B_X6_readSort_110
        rw [lt_s1, if_neg n10]
        unfold B_X6_readSort_126
        rw [lt_s1, show nI b ||| 1 = nI 1 by rw [b0]; decide, show nI e ||| 0 = nI e by rw [li_0, fa_or, Nat.or_zero], nI_1]
      · rw [if_neg b0, if_neg (show ¬ nI b = 0 from fun z => b0 ((nI_eq (b := 0) (by omega) (by omega)).mp z))]
    · rw [decide_eq_false a, Bool.false_or, if_neg a]
      by_cases b2 : kwT tp 900 s = 302
      · rw [decide_eq_true b2, if_neg (show ¬ nI true.toNat = 0 by decide), if_pos b2, c_kw B, lt_s1, if_pos (kwT_kw 900 s), if_neg a]
        unfold B_X6_readSort_86
        rw [if_pos (show (0 : Int32) = 0 from rfl)]
        by_cases b0 : e = 0
        · rw [if_pos b0, if_pos (show nI e = 0 by rw [b0]; rfl)]
          unfold B_X6_readSort_110
          rw [lt_s1, if_pos (show (0 : Int32) = 0 from rfl)]
          unfold B_X6_readSort_126
          rw [lt_s1, show nI e ||| 1 = nI 1 by rw [b0]; decide, show nI b ||| 0 = nI b by rw [li_0, fa_or, Nat.or_zero], nI_1]
        · rw [if_neg b0, if_neg (show ¬ nI e = 0 from fun z => b0 ((nI_eq (b := 0) (by omega) (by omega)).mp z))]
      · rw [decide_eq_false b2, if_pos (show nI false.toNat = 0 from rfl), if_neg b2]
theorem m_so1 {k b e : Nat} (hk : k < 5) (hb : b ≤ 1) (he : e ≤ 1) (B : MT1 tp 900 s h) (hb1 : h.1 158 (5 + k) = nI b) (he1 : h.1 158 (10 + k) = nI e) (k103 k123 self : Hp → Option (Int32 × Hp)) : F_X13_readSort_54 (nI k) k103 k123 self h = if kwT tp 900 s = 301 then (if b = 1 then k103 h else bnv (f_X13_next (sI h 158 (5 + k) (nI 1))) fun h22 => self h22) else if kwT tp 900 s = 302 then (if e = 1 then k103 h else bnv (f_X13_next (sI h 158 (10 + k) (nI 1))) fun h22 => self h22) else k123 h := by
  have w1 : f_X13_isWord 108187666181747 h = some (nI (decide (kwT tp 900 s = 301)).toNat, h) := mw (i := 1) (by decide) (by decide +kernel) B
  have w2 : f_X13_isWord 1701733491 h = some (nI (decide (kwT tp 900 s = 302)).toNat, h) := mw (i := 2) (by decide) (by decide +kernel) B
  have nt : ¬ nI true.toNat = 0 := by decide
  have nf : nI false.toNat = 0 := rfl
  unfold F_X13_readSort_54
  rw [w1, bndS]
  by_cases a : kwT tp 900 s = 301
  · rw [decide_eq_true a, if_neg nt, if_pos a]
    unfold B_X13_readSort_74
    rw [w1, bndS, decide_eq_true a, if_neg nt]
    unfold B_X13_readSort_90
    rw [li_5, nI_add, lt_s1, if_pos (inb_nI (by omega) (by decide)), clp (by omega), hb1]
    by_cases b1 : b = 1
    · rw [if_pos b1, if_pos (show nI b = 1 by rw [b1]; rfl)]
    · rw [if_neg b1, if_neg (show ¬ nI b = 1 from fun z => b1 ((nI_eq (b := 1) (by omega) (by omega)).mp z)), if_pos (inb_nI (by omega) (by decide)), lt_s1]
      rfl
  · rw [decide_eq_false a, if_pos nf, if_neg a, w2, bndS]
    by_cases b2 : kwT tp 900 s = 302
    · rw [decide_eq_true b2, if_neg nt, if_pos b2]
      unfold B_X13_readSort_74
      rw [w1, bndS, decide_eq_false a, if_pos nf]
      unfold B_X13_readSort_90
      rw [li_10, nI_add, lt_s1, if_pos (inb_nI (by omega) (by decide)), clp (by omega), he1]
      by_cases b1 : e = 1
      · rw [if_pos b1, if_pos (show nI e = 1 by rw [b1]; rfl)]
      · rw [if_neg b1, if_neg (show ¬ nI e = 1 from fun z => b1 ((nI_eq (b := 1) (by omega) (by omega)).mp z)), if_pos (inb_nI (by omega) (by decide)), lt_s1]
        rfl
    · rw [decide_eq_false b2, if_pos nf, if_neg b2]
theorem lL_280375465082880 : (280375465082880 : Int64) = lN 280375465082880 := (Eq.refl (lN 280375465082880)).trans (Eq.refl _)
theorem so_f1 {b : Nat} (hb : b ≤ 1) (P : Int64 → Option (Int32 × Hp)) : (if nI b = 0 then P 0 else P 280375465082880) = P (lN (255 * b * 1099511627776)) := by
  rcases (show b = 0 ∨ b = 1 by omega) with rfl | rfl
  · rw [if_pos (show nI 0 = 0 from rfl), Nat.mul_zero, Nat.zero_mul, lL_0]
  · rw [if_neg (show ¬ nI 1 = 0 by decide), show 255 * 1 * 1099511627776 = 280375465082880 by decide, lL_280375465082880]
theorem so_f2 {e k : Nat} (he : e ≤ 1) (hk : k < 5) (P : Int64 → Option (Int32 × Hp)) : (if nI e = 0 then P 0 else P (jlshl 255 (8 * nI k))) = P (lN (255 * e * 2 ^ (8 * k))) := by
  rcases (show e = 0 ∨ e = 1 by omega) with rfl | rfl
  · rw [if_pos (show nI 0 = 0 from rfl), Nat.mul_zero, Nat.zero_mul, lL_0]
  · rw [if_neg (show ¬ nI 1 = 0 by decide), Nat.mul_one, li_8, pk_mul, lL_255, Lshl _ (by omega)]
theorem so_v1 {a b : Nat} (hb : b ≤ 1) (ha : a < 1099511627776) : lN a ||| lN (255 * b * 1099511627776) = lN (a + 255 * b * 1099511627776) := by
  have p40 : (2 : Nat) ^ 40 = 1099511627776 := by decide
  have q := or_add (a := a) (b := 255 * b) (n := 40) (by rw [p40]; exact ha)
  rw [p40] at q
  rw [wb_or (by omega) (by omega), q]
theorem so_v2 {a e k : Nat} (he : e ≤ 1) (hk : k < 5) (ha : a < 2 ^ (8 * k)) : lN a ||| lN (255 * e * 2 ^ (8 * k)) = lN (a + 255 * e * 2 ^ (8 * k)) := by
  have p8 : 2 ^ (8 * k) ≤ 4294967296 := Nat.le_trans (Nat.pow_le_pow_right (by decide) (show 8 * k ≤ 32 by omega)) (by decide)
  have m8 : 255 * e * 2 ^ (8 * k) ≤ 1095216660480 := by
    rcases (show e = 0 ∨ e = 1 by omega) with z | z
    · rw [z, Nat.mul_zero, Nat.zero_mul]; omega
    · rw [z, Nat.mul_one]; omega
  rw [wb_or (by omega) (by omega), or_add ha]
theorem so_d1 {k x : Nat} (H : TgOk ρ nm) (hk : ρ 0 < 5) (C : RgC h 142 (soS ρ 0 0) N nK nm) : h.2.1 146 (ρ 0) = lN (ahd ρ (ρ 0)) := by
  have z : ρ (5 + ρ 0) = 0 := (H.2.2.1 (ρ 0) (by omega) hk).1
  have o : ∀ j, 15 ≤ j → soS ρ 0 0 j = ρ j := fun j hj => soS_o (by omega) (by omega) (by omega)
  have E : ahd (soS ρ 0 0) (ρ 0) = ahd ρ (ρ 0) := by
    unfold ahd
    rw [o _ (by omega), o _ (by omega), o _ (by omega), o _ (by omega), o _ (by omega), soS_b, z]
  rw [← E]
  exact C.2.2.2.1.1 (ρ 0) hk
theorem so_d2 (H : TgOk ρ nm) (hk : ρ 0 < 5) (C : RgC h 142 (soS ρ 0 0) N nK nm) : h.2.1 142 7 = lN (ens ρ) := by
  obtain ⟨E1, -⟩ := ens_so (b := 0) (e := 0) H hk
  have := C.2.2.2.1.2
  rw [show ens (soS ρ 0 0) = ens ρ by rw [E1, Nat.mul_zero, Nat.zero_mul]; omega] at this
  exact this
theorem so_cE {k b e x y : Nat} {h2 : Hp} (hk : k < 5) (hb : b ≤ 1) (he : e ≤ 1) (h4 : h.2.2 4 1 = 142) (d1 : h.2.1 146 k = lN x) (d2 : h.2.1 142 7 = lN y) (hx : x < 1099511627776) (hy : y < 2 ^ (8 * k)) (e2 : h2 = sL (sL h 146 k (lN (x + 255 * b * 1099511627776))) 142 7 (lN (y + 255 * e * 2 ^ (8 * k)))) (B2 : CT1 tp 900 s h2) : B_X6_readSort_141 (nI k) (nI b) (nI e) h = (if kwT tp 900 s = 301 ∨ kwT tp 900 s = 302 then some (0, gfF h2 3 s) else some (1, h2)) := by
  have i8 : isO 8 142 = true := by decide
  have v1 := so_v1 hb hx
  have v2 := so_v2 he hk hy
  obtain ⟨z1, hz1⟩ : ∃ z1, z1 = lN (x + 255 * b * 1099511627776) := ⟨_, rfl⟩
  obtain ⟨z2, hz2⟩ : ∃ z2, z2 = lN (y + 255 * e * 2 ^ (8 * k)) := ⟨_, rfl⟩
  rw [← hz1] at v1 e2
  rw [← hz2] at v2 e2
  obtain ⟨w1, hw1⟩ : ∃ w1, w1 = lN (255 * b * 1099511627776) := ⟨_, rfl⟩
  obtain ⟨w2, hw2⟩ : ∃ w2, w2 = lN (255 * e * 2 ^ (8 * k)) := ⟨_, rfl⟩
  have F1 := fun P => so_f1 hb P
  have F2 := fun P => so_f2 he hk P
  rw [← hw1] at v1 F1
  rw [← hw2] at v2 F2
  obtain ⟨h1, e1⟩ : ∃ h1, h1 = sL h 146 k z1 := ⟨_, rfl⟩
  rw [← e1] at e2
  have d2' : h1.2.1 142 7 = lN y := by rw [e1, sL_ne1 (by decide)]; exact d2
  have r1 : h1.2.2 4 1 = 142 := by rw [e1, sL3]; exact h4
  unfold B_X6_readSort_141
  rw [h4, lt_s1, if_pos i8, if_pos (inb_nI hk (by decide)), clp (by omega), show (142 + 4 : Nat) = 146 from rfl, d1]
  have g1 := F1 (fun t => B_X6_readSort_162 (nI k) (nI e) t (lN x) (nI k) 146 h)
  have g2 := F2 (fun t => B_X6_readSort_188 t (lN y) 142 h1)
  rw [g1]
  unfold B_X6_readSort_162
  rw [if_pos (inb_nI hk (by decide)), clp (by omega), v1, lt_s1, ← e1, r1, lt_s1, if_pos i8, d2', g2]
  unfold B_X6_readSort_188
  rw [v2, lt_s1, ← e2, c_be B2, bndS]
  by_cases a : kwT tp 900 s = 301 ∨ kwT tp 900 s = 302
  · have t1 : (decide (kwT tp 900 s = 301) || decide (kwT tp 900 s = 302)) = true := by
      rcases a with a | a
      · rw [decide_eq_true a, Bool.true_or]
      · rw [decide_eq_true a, Bool.or_true]
    rw [if_pos a, t1, if_neg (show ¬ nI true.toNat = 0 by decide), show f_X6_refuse 3 h2 = some (0, gfF h2 3 s) from c_refuse (k := 3) B2, bndS, if_pos (show (0 : Int32) = 0 from rfl)]
  · rw [if_neg a, decide_eq_false (fun z => a (Or.inl z)), decide_eq_false (fun z => a (Or.inr z)), Bool.false_or, if_pos (show nI false.toNat = 0 from rfl)]
theorem c_so9 {b e : Nat} (H : TgOk ρ nm) (hk : ρ 0 < 5) (hb : b ≤ 1) (he : e ≤ 1) (C : SC tp s (soS ρ 0 0) N nK nm ed ck h) : ∃ h', B_X6_readSort_141 (nI (ρ 0)) (nI b) (nI e) h = (if kwT tp 900 s = 301 ∨ kwT tp 900 s = 302 then some (0, gfF h' 3 s) else some (1, h')) ∧ Same [142, 146] h h' ∧ SC tp s (soS ρ b e) N nK nm ed ck h' := by
  obtain ⟨-, A2, -⟩ := ahd_so (b := 0) (e := 0) H hk
  obtain ⟨-, E2⟩ := ens_so (b := 0) (e := 0) H hk
  obtain ⟨h2, e2⟩ : ∃ h2, h2 = sL (sL h 146 (ρ 0) (lN (ahd ρ (ρ 0) + 255 * b * 1099511627776))) 142 7 (lN (ens ρ + 255 * e * 2 ^ (8 * ρ 0))) := ⟨_, rfl⟩
  have S2 : Same [142, 146] h h2 := by rw [e2]; exact (Same.ofL (by decide)).tr (Same.ofL (by decide))
  refine ⟨h2, so_cE hk hb he C.2.2.1 (so_d1 (k := 0) (x := 0) H hk C.2.1) (so_d2 H hk C.2.1) A2 E2 e2 (C.1.same S2 (by decide)), S2, C.of S2 (by decide) (C.2.1.sort2 H hk S2 (by rw [e2, sL1, sL1]) ?_ (fun j hj => ?_) ?_)⟩
  · rw [e2, sL_ne1 (by decide), sL_s]
  · rw [e2, sL_ne1 (by decide), sL_nk1 hj]
  · rw [e2, sL_s]
theorem RgM.upd {p v : Nat} (hp : 3 ≤ p) (R : RgM h ρ nS nK nm) (e1 : ρ' p = v) (e2 : ∀ j, j ≠ p → ρ' j = ρ j) : RgM (sI h 158 p (nI v)) ρ' nS nK nm := by
  obtain ⟨a1, a2, a3, a4⟩ := R
  unfold RgM
  rw [e2 0 (by omega), e2 1 (by omega), e2 2 (by omega)]
  refine ⟨fun k hk => ?_, a2, a3, a4⟩
  by_cases z : k = p
  · rw [z, sI_s, e1]
  · rw [sI_nk1 z, e2 k z]; exact a1 k hk
theorem beS_b (b e : Nat) : beS ρ b e (5 + ρ 0) = b := if_pos rfl
theorem beS_e (b e : Nat) : beS ρ b e (10 + ρ 0) = e := by unfold beS; rw [if_neg (by omega), if_pos rfl]
def soK3 (h26 : Hp) : Option (Int32 × Hp) :=
  bnd (f_X13_bad 3 h26) fun v28 h27 =>
  if isZ v28 = true then
  some (v28, h27)
  else none
def soK1 (h30 : Hp) : Option (Int32 × Hp) :=
  lt (sI h30 158 ((0 : Int32).toNatClampNeg) ((h30.1 158 ((0 : Int32).toNatClampNeg)) + 1)) fun h31 =>
  some (1, h31)
def soFC (ρ : Nat → Nat) (self : Int32 → Int32 → Int32 → Hp → Option (Int32 × Hp)) : Int32 → Int32 → Int32 → Hp → Option (Int32 × Hp) := F_X6_readSort_55 (nI (ρ 0)) (fun h27 => B_X6_readSort_104 h27) (fun h31 => B_X6_readSort_104 h31) (fun v33 v34 h32 => B_X6_readSort_141 (nI (ρ 0)) v33 v34 h32) self
def soFM (ρ : Nat → Nat) (self : Hp → Option (Int32 × Hp)) : Hp → Option (Int32 × Hp) := F_X13_readSort_54 (nI (ρ 0)) soK3 soK1 self
theorem so_step {l : List Nat} {b e : Nat} (O : SO tp s ρ nS nK nm ed ck) (hs : s ≤ 900) (hk : ρ 0 < 5) (hl : okNm l) (hb : b ≤ 1) (he : e ≤ 1) (C : SC tp s (soS ρ 0 0) (soN ρ nS l) nK nm ed ck gc) (M : SM tp s (beS ρ b e) nS nK nm ed ck gm) (n1 : gm.2.1 159 (16 + ρ 0) = lN (nmM l)) (sC : Int32 → Int32 → Int32 → Hp → Option (Int32 × Hp)) (sM : Hp → Option (Int32 × Hp)) (IH : ∀ b' e' s' gc' gm', b' ≤ 1 → e' ≤ 1 → b' + e' = b + e + 1 → s' ≤ 900 → SO tp s' ρ nS nK nm ed ck → SC tp s' (soS ρ 0 0) (soN ρ nS l) nK nm ed ck gc' → SM tp s' (beS ρ b' e') nS nK nm ed ck gm' → gm'.2.1 159 (16 + ρ 0) = lN (nmM l) → bad2 gc' gm' (sC (nI b') (nI e') (nI (b' + e')) gc') (sM gm') ∨ good2 tp s' gc' gm' (sC (nI b') (nI e') (nI (b' + e')) gc') (sM gm')) : bad2 gc gm (soFC ρ sC (nI b) (nI e) (nI (b + e)) gc) (soFM ρ sM gm) ∨ good2 tp s gc gm (soFC ρ sC (nI b) (nI e) (nI (b + e)) gc) (soFM ρ sM gm) := by
  have T := O.1
  have H := O.2.1.1
  obtain ⟨g9, k1, k2, k3⟩ := c_so9 (b := b) (e := e) H hk hb he C
  have u9 : Same unC gc g9 := k2.mono (fun a h1 => by simp only [List.mem_cons, List.not_mem_nil, or_false] at h1; rcases h1 with h1 | h1 <;> (subst h1; decide))
  have c4 : B_X6_readSort_104 gc = some (0, gfF gc 3 s) := by
    unfold B_X6_readSort_104
    rw [show f_X6_refuse 3 gc = some (0, gfF gc 3 s) from c_refuse (k := 3) C.1, bndS, if_pos (show isZ 0 = true by decide)]
  have m3 : soK3 gm = some (0, mfF gm 3 s) := by
    unfold soK3
    rw [show f_X13_bad 3 gm = some (0, mfF gm 3 s) from m_badT (k := 3) M.1, bndS, if_pos (show isZ 0 = true by decide)]
  have b0 : gm.1 158 (5 + ρ 0) = nI b := by rw [M.2.1.1 _ (by omega), beS_b]
  have e0 : gm.1 158 (10 + ρ 0) = nI e := by rw [M.2.1.1 _ (by omega), beS_e]
  have nx : ∀ b' e', b' ≤ 1 → e' ≤ 1 → b' + e' = b + e + 1 → ∀ p, unM gm p → p.1 155 18 = gm.1 155 18 → SM tp s (beS ρ b' e') nS nK nm ed ck p → p.2.1 159 = gm.2.1 159 → bad2 gc gm (bnv (f_X9_advance gc) fun h25 => sC (nI b') (nI e') (nI (b + e + 1)) h25) (bnv (f_X13_next p) fun h22 => sM h22) ∨ good2 tp s gc gm (bnv (f_X9_advance gc) fun h25 => sC (nI b') (nI e') (nI (b + e + 1)) h25) (bnv (f_X13_next p) fun h22 => sM h22) := fun b' e' h1 h2 h3 p up p18 Mp np => by
    obtain ⟨gc1, a1, a2, C1⟩ := C.adv5 T O.2.2.1
    obtain ⟨gm1, b1, b2, b3, M1⟩ := Mp.nx5 T
    have g1 := tkB_ge (tp := tp) (L := 900) (s := s) (by have := O.2.2.1; omega)
    rw [a1, b1, bnvS, bnvS, ← h3]
    have U : unM gm gm1 := up.tr (unM.ofF b2 b3)
    rcases IH b' e' _ gc1 gm1 h1 h2 h3 (tkB_le tp 900 _).2 (tkB_ok T O) C1 M1 (by rw [(b2 159 (by decide)).2.1, np]; exact n1) with r | r
    · exact Or.inl (r.tr (unC5 a2) U)
    · exact Or.inr (r.tr g1 (by rw [b3.1 18 (by decide)]; exact p18) (unC5 a2) U)
  unfold soFC soFM
  rw [c_so1 hb he (by omega) C.1, m_so1 hk hb he M.1 b0 e0]
  by_cases a : kwT tp 900 s = 301
  · rw [if_pos a, if_pos a]
    by_cases b1 : b = 1
    · rw [if_pos b1, m3]
      by_cases i2 : b + e = 2
      · rw [if_pos i2]
        show bad2 gc gm (B_X6_readSort_141 (nI (ρ 0)) (nI b) (nI e) gc) _ ∨ good2 tp s gc gm (B_X6_readSort_141 (nI (ρ 0)) (nI b) (nI e) gc) _
        rw [k1, if_pos (Or.inl a)]
        exact Or.inl ((bad_here O.s1000 (by omega)).tr u9 unM.rf)
      · rw [if_neg i2, if_neg (show ¬ b = 0 by omega), c4]
        exact Or.inl (bad_here O.s1000 (by omega))
    · rw [if_neg b1, if_neg (show ¬ b + e = 2 by omega), if_pos (show b = 0 by omega)]
      exact nx 1 e (by omega) he (by omega) _ unM.ofI158 (sI_ne1 (by decide)) (M.of (Same.ofI (X := [158]) (by decide)) (by decide) (M.2.1.upd (by omega) (beS_b 1 e) (fun j hj => by unfold beS; rw [if_neg hj, if_neg hj]))) rfl
  · rw [if_neg a, if_neg a]
    by_cases c : kwT tp 900 s = 302
    · rw [if_pos c, if_pos c]
      by_cases b1 : e = 1
      · rw [if_pos b1, m3]
        by_cases i2 : b + e = 2
        · rw [if_pos i2]
          show bad2 gc gm (B_X6_readSort_141 (nI (ρ 0)) (nI b) (nI e) gc) _ ∨ good2 tp s gc gm (B_X6_readSort_141 (nI (ρ 0)) (nI b) (nI e) gc) _
          rw [k1, if_pos (Or.inr c)]
          exact Or.inl ((bad_here O.s1000 (by omega)).tr u9 unM.rf)
        · rw [if_neg i2, if_neg (show ¬ e = 0 by omega), c4]
          exact Or.inl (bad_here O.s1000 (by omega))
      · rw [if_neg b1, if_neg (show ¬ b + e = 2 by omega), if_pos (show e = 0 by omega)]
        refine nx b 1 hb (by omega) (by omega) _ unM.ofI158 (sI_ne1 (by decide)) (M.of (Same.ofI (X := [158]) (by decide)) (by decide) (M.2.1.upd (by omega) (beS_e b 1) (fun j hj => ?_))) rfl
        unfold beS
        by_cases z : j = 5 + ρ 0
        · rw [if_pos z, if_pos z]
        · rw [if_neg z, if_neg z, if_neg hj, if_neg hj]
    · rw [if_neg c, if_neg c]
      have nn : ¬ (kwT tp 900 s = 301 ∨ kwT tp 900 s = 302) := fun z => z.elim a c
      have kk : (if b + e = 2 then B_X6_readSort_141 (nI (ρ 0)) (nI b) (nI e) gc else B_X6_readSort_141 (nI (ρ 0)) (nI b) (nI e) gc) = some (1, g9) := by
        rw [ite_self, k1, if_neg nn]
      have m1 : soK1 gm = some (1, sI gm 158 0 (nI (ρ 0 + 1))) := by
        unfold soK1
        rw [show (0 : Int32).toNatClampNeg = 0 from rfl, M.2.1.1 0 (by omega), beS_o (by omega) (by omega), nI_1, lt_s1]
      rw [m1]
      refine Or.inr ⟨s, soS ρ b e, soN ρ nS l, nK, nm, ed, ck, g9, _, kk, rfl, Nat.le_refl _, ⟨T, O.2.1.sort hk hl hb he, O.2.2⟩, k3, M.of (Same.ofI (X := [158]) (by decide)) (by decide) (M.2.1.sort hk n1), sI_ne1 (by decide), u9, unM.ofI158⟩
theorem so_loop {l : List Nat} (hk : ρ 0 < 5) (hl : okNm l) : ∀ d b e s gc gm fC fM, b ≤ 1 → e ≤ 1 → b + e + d = 2 → d < fC → d < fM → s ≤ 900 → SO tp s ρ nS nK nm ed ck → SC tp s (soS ρ 0 0) (soN ρ nS l) nK nm ed ck gc → SM tp s (beS ρ b e) nS nK nm ed ck gm → gm.2.1 159 (16 + ρ 0) = lN (nmM l) → bad2 gc gm (itr4 (soFC ρ) fC (nI b) (nI e) (nI (b + e)) gc) (itr1 (soFM ρ) fM gm) ∨ good2 tp s gc gm (itr4 (soFC ρ) fC (nI b) (nI e) (nI (b + e)) gc) (itr1 (soFM ρ) fM gm) := by
  intro d
  induction d with
  | zero =>
    intro b e s gc gm fC fM hb he hd h1 h2 hs O C M n1
    obtain ⟨fC, rfl⟩ : ∃ q, fC = q + 1 := ⟨fC - 1, by omega⟩
    obtain ⟨fM, rfl⟩ : ∃ q, fM = q + 1 := ⟨fM - 1, by omega⟩
    rw [itr4_s, itr1_s]
    exact so_step O hs hk hl hb he C M n1 _ _ (fun b' e' _ _ _ q1 q2 q3 => by omega)
  | succ d ih =>
    intro b e s gc gm fC fM hb he hd h1 h2 hs O C M n1
    obtain ⟨fC, rfl⟩ : ∃ q, fC = q + 1 := ⟨fC - 1, by omega⟩
    obtain ⟨fM, rfl⟩ : ∃ q, fM = q + 1 := ⟨fM - 1, by omega⟩
    rw [itr4_s, itr1_s]
    exact so_step O hs hk hl hb he C M n1 _ _ (fun b' e' s' gc' gm' q1 q2 q3 q4 q5 q6 q7 q8 => ih b' e' s' gc' gm' fC fM q1 q2 (by omega) (by omega) (by omega) q4 q5 q6 q7 q8)
/-- SORT -/
theorem rd_sort (hs : s ≤ 900) (O : SO tp s ρ nS nK nm ed ck) (C : SC tp s ρ nS nK nm ed ck gc) (M : SM tp s ρ nS nK nm ed ck gm) : bad2 gc gm (f_X6_readSort gc) (f_X13_readSort gm) ∨ good2 tp s gc gm (f_X6_readSort gc) (f_X13_readSort gm) := by
  have H := O.2.1.1
  obtain ⟨h5, h3, h8, -⟩ := H.1
  have i8 : isO 8 142 = true := by decide
  have nb := N0_big
  unfold f_X6_readSort f_X13_readSort
  rw [C.2.2.1, lt_s1, if_pos i8, C.2.1.1.1, show (0 : Int32).toNatClampNeg = 0 from rfl, M.2.1.1 0 (by omega), lt_s1, if_pos i8, C.2.1.1.1, lt_s1, lt_s1]
  by_cases hk : ρ 0 < 5
  · obtain ⟨gm1, e1, e2, r⟩ := new2 (x := ρ 0) (by omega) hs (fun i hi => by omega) (fun i hi => by omega) (fun w hw => by omega) O C M
    rw [if_pos (show nI (ρ 0) < 5 from nI_lt (b := 5) hk (by omega)), if_neg (show ¬ nI (ρ 0) = 5 from fun z => by have := (nI_eq (b := 5) (by omega) (by omega)).mp z; omega), e1, bnvS, li_16, nI_add]
    rcases r with r | ⟨s2, l, gc2, gm2, a1, a2, a3, a4, a5, O2, C2, M2, n1, n2, k18, u1, u2⟩
    · exact Or.inl (r.bnd (fun _ => if_pos rfl) (fun _ => if_pos rfl))
    · have C3 : SC tp s2 (soS ρ 0 0) (soN ρ nS l) nK nm ed ck (sI gc2 142 0 (nI (ρ 0 + 1))) := C2.of (Same.ofI (X := [142]) (by decide)) (by decide) (C2.2.1.sort1 H hk n1)
      have M3 : SM tp s2 (beS ρ 0 0) nS nK nm ed ck (sI (sI gm2 158 (5 + ρ 0) (nI 0)) 158 (10 + ρ 0) (nI 0)) := by
        refine M2.of ((Same.ofI (X := [158]) (by decide)).tr (Same.ofI (X := [158]) (by decide))) (by decide) ((M2.2.1.upd (ρ' := fun j => if j = 5 + ρ 0 then 0 else ρ j) (by omega) (if_pos rfl) (fun j hj => if_neg hj)).upd (by omega) (beS_e 0 0) (fun j hj => ?_))
        unfold beS
        by_cases z : j = 5 + ρ 0
        · rw [if_pos z, if_pos z]
        · rw [if_neg z, if_neg z, if_neg hj]
      rw [a1, a2, bndS, bndS, if_neg (show ¬ (1 : Int32) = 0 by decide), if_neg (show ¬ (1 : Int32) = 0 by decide), C2.2.2.1, lt_s1, if_pos i8, C2.2.1.1.1, nI_1, lt_s1, li_5, nI_add, if_pos (inb_nI (by omega) (by decide)), clp (by omega), li_10, nI_add, lt_s1, if_pos (inb_nI (by omega) (by decide)), clp (by omega), lt_s1]
      have r := so_loop hk a5 2 0 0 s2 (sI gc2 142 0 (nI (ρ 0 + 1))) (sI (sI gm2 158 (5 + ρ 0) (nI 0)) 158 (10 + ρ 0) (nI 0)) N0 N0 (by omega) (by omega) (by omega) (by omega) (by omega) a4 O2 C3 M3 n2
      have V : Same unC gc (sI gc2 142 0 (nI (ρ 0 + 1))) := u1.tr (Same.ofI (by decide))
      have U : unM gm (sI (sI gm2 158 (5 + ρ 0) (nI 0)) 158 (10 + ρ 0) (nI 0)) := (u2.tr unM.ofI158).tr unM.ofI158
      rcases r with r | r
      · exact Or.inl (r.tr V U)
      · exact Or.inr (r.tr a3 (by rw [sI_ne1 (by decide), sI_ne1 (by decide)]; exact k18) V U)
  · have e5 : ρ 0 = 5 := by omega
    rw [if_neg (show ¬ nI (ρ 0) < 5 from nI_nlt (b := 5) (by omega) (by omega)), if_pos (show nI (ρ 0) = 5 by rw [e5]; rfl), show f_X6_refuse 4 gc = some (0, gfF gc 4 s) from c_refuse (k := 4) C.1, show f_X13_bad 4 gm = some (0, mfF gm 4 s) from m_badT (k := 4) M.1, bndS, bndS, if_pos (show isZ 0 = true by decide), if_pos (show isZ 0 = true by decide)]
    exact Or.inl (bad_here O.s1000 (by omega))
end UNGP
