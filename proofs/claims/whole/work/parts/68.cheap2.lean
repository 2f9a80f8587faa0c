section TM
variable {tp : List Nat} {σ τ : Nat → Nat} {nm nm2 : Nat → List Nat} {K : Im} {fd : List Nat} {fl : Nat} {tn : Option Tn} {h h' : Hp}
def accN (τ : Nat → Nat) (e r : Nat) (g : Nat → Nat) : Nat → Ac
  | 0 => none
  | n + 1 => foN τ e r g (n + 1) 0 (τ 2 ^ (n + 1)) (accN τ e r g n)
def acI : Ac → Int32
  | none => -1
  | some q => nI q.1
def acOk : Ac → Prop
  | none => True
  | some q => q.1 ≤ 1000 ∧ 1 ≤ q.2.1 ∧ q.2.1 ≤ 5
def fdA (S : Nat) (fd : List Nat) : Ac → List Nat
  | none => fd
  | some q => dig S q.2.1 q.2.2
theorem c_seekCheapest {e r most : Nat} {g : Nat → Nat} (T : TgRep h 7 τ nm) (H : TgOk τ nm) (hxe : h.1 9 0 = nI e) (hxr : h.1 9 1 = nI r) (e0 : 0 < e) (he : e ≤ 5) (r5 : r < 1000) (hg : ∀ b, b ≤ e → g b ≤ 10) (hm : most ≤ 5) (h7 : ∀ b, b ≤ e → h.1 127 b = nI (g b)) (hkb : h.1 123 8 = -1) : ∃ h', Same [122, 123, 124, 125, 126, 128, 129, 131, 132] h h' ∧ h'.1 123 8 = -1 ∧ f_X2_seekCheapest 7 (nI most) h = some (acI (accN τ e r g most), h') ∧ BS τ (accN τ e r g most) h' := by
  obtain ⟨h1, eh1⟩ : ∃ q, q = sR h 122 2 7 := ⟨_, rfl⟩
  have s1 : Same [122] h h1 := by rw [eh1]; exact Same.ofR (by decide)
  have i1 : h1.1 = h.1 := by rw [eh1]; rfl
  obtain ⟨h2, f2, b1, b2, b3, b4, b5, b6⟩ := c_begin (h := h1) (x := 9) (e := e) (r := r) (by omega) (by rw [i1]; exact hxe) (by rw [i1]; exact hxr) e0 he r5
  have s2 : Same [122, 123, 124, 125, 126, 128, 129, 131, 132] h h2 := (s1.mono (fun q hq => by simp only [List.mem_cons, List.not_mem_nil, or_false] at hq ⊢; omega)).tr (b1.mono (fun q hq => by simp only [List.mem_cons, List.not_mem_nil, or_false] at hq ⊢; omega))
  have p122 : h2.2.2 122 2 = 7 := by
    rw [(b1 122 (by decide)).2.2, eh1]
    rfl
  obtain ⟨h3, eh3⟩ : ∃ q, q = sI h2 122 4 496 := ⟨_, rfl⟩
  have s3 : Same [122, 123, 124, 125, 126, 128, 129, 131, 132] h h3 := by rw [eh3]; exact s2.tr (Same.ofI (by decide))
  obtain ⟨k1, ek1⟩ : ∃ k1 : Hp → Option (Int32 × Hp), k1 = fun h7 => if (h7.1 122 4) = 496 then some ((-1), h7) else some (h7.1 122 4, h7) := ⟨_, rfl⟩
  obtain ⟨y, e1, ⟨p1, p1'⟩, p2, p3, p4⟩ := loop2f (F := F_X2_seekCheapest_26 (nI most) k1) (k := k1) 1 (most + 1) (by omega) (fun n y => (Same [122, 123, 124, 125, 126, 128, 129, 131, 132] h y ∧ y.1 123 8 = -1) ∧ (∀ ln, y.1 123 7 = ln → WB τ nm e r g none ln y) ∧ WL τ e r g none 0 0 y ∧ BS τ (accN τ e r g (n - 1)) y) (fun self y _ => by
      unfold F_X2_seekCheapest_26
      rw [if_pos (nI_lt (by omega) (by omega))]) (fun self n y hn1 hn2 ⟨⟨z1, z1'⟩, z2, z3, z4⟩ => by
      obtain ⟨y1, ey1⟩ : ∃ q, q = sI y 123 7 (nI n) := ⟨_, rfl⟩
      have B0 := z2 _ rfl
      have B1 : WB τ nm e r g none (nI n) y1 := by
        obtain ⟨c1, c2, c3, c4, c5⟩ := B0
        rw [ey1]
        refine ⟨c1.kept (fun q w1 w2 => ⟨funext fun j => sI_ne1 (by omega), rfl⟩), c2, ⟨?_, sI_s, ?_⟩, fun i hi => ?_, fun b hb => ?_⟩
        · rw [sI_nk1 (by decide)]; exact c3.1
        · rw [sI_nk1 (by decide)]; exact c3.2.2
        · rw [sI_ne1 (by decide)]; exact c4 i hi
        · rw [sI_ne1 (by decide)]; exact c5 b hb
      have L1 : WL τ e r g none 0 0 y1 := by
        rw [ey1]
        exact ⟨fun i hi => absurd hi (Nat.not_lt_zero _), z3.2.1, fun q hq => by cases hq⟩
      have Bs1 : BS τ (accN τ e r g (n - 1)) y1 := z4.same (by rw [ey1]; exact funext fun j => sI_ne1 (by decide)) (by rw [ey1]; exact funext fun j => sI_ne1 (by decide)) (by rw [ey1]; exact funext fun j => sI_ne1 (by decide))
      obtain ⟨y2, f3, F3, L3, B3⟩ := c_cheaper (n := n) H he hg hn1 (by omega) n 0 0 y1 _ 400 (by omega) (by omega) (Or.inl rfl) B1 L1 Bs1 (fun z => by omega)
      have Bw := B1.cf F3
      refine ⟨y2, ?_, ⟨?_, ?_⟩, fun ln hln => ?_, L3, ?_⟩
      · unfold F_X2_seekCheapest_26 f_X2_seekCheaper
        rw [if_neg (nI_nlt (by omega) (by omega)), lt_s0, ← ey1]
        show bnv (itr3 E_X2_seekCheaper 400 (nI 0) (nI (cs τ 0 0)) y1) _ = _
        rw [f3, bnvS, nI_1]
      · refine z1.tr (Same.tr (h1 := y1) ?_ (F3.1.mono (fun q hq => by simp only [List.mem_cons, List.not_mem_nil, or_false] at hq ⊢; omega)))
        rw [ey1]
        exact Same.ofI (by decide)
      · exact Bw.2.2.1.2.2
      · have : y2.1 123 7 = nI n := Bw.2.2.1.2.1
        rw [← hln, this]
        exact Bw
      · rw [Nat.zero_mul] at B3
        rw [show n + 1 - 1 = (n - 1) + 1 by omega]
        show BS τ (foN τ e r g (n - 1 + 1) 0 (τ 2 ^ (n - 1 + 1)) (accN τ e r g (n - 1))) y2
        rw [show n - 1 + 1 = n by omega]
        exact B3) h3 ⟨⟨s3, by rw [eh3, sI_ne1 (by decide), b2 8 (by decide), i1]; exact hkb⟩, fun ln hln => ⟨T.kept (fun q w1 w2 => ⟨(s3 q (by simp; omega)).1, (s3 q (by simp; omega)).2.1⟩), by rw [eh3]; exact ⟨b4, p122⟩, ⟨by rw [eh3, sI_ne1 (by decide)]; exact b3, hln, by rw [eh3, sI_ne1 (by decide), b2 8 (by decide), i1]; exact hkb⟩, fun i hi => by rw [eh3, sI_ne1 (by decide)]; exact b5 i hi, fun b hb => by rw [eh3, sI_ne1 (by decide), (b1 127 (by decide)).1, i1]; exact h7 b hb⟩, by rw [eh3]; exact WL_0 0 (fun b hb => ⟨(b6 b hb).1, by rw [sI_ne1 (by decide)]; exact (b6 b hb).2⟩), by rw [eh3]; exact sI_s⟩ (by omega)
  refine ⟨y, p1, p1', ?_, p4⟩
  unfold f_X2_seekCheapest
  rw [lt_s0, ← eh1]
  show bnv (f_X11_begin 7 9 h1) _ = _
  rw [f2, bnvS, lt_s0, ← eh3, ← ek1, li_1, e1, ek1]
  show (if y.1 122 4 = 496 then _ else _) = _
  rw [show most + 1 - 1 = most by omega] at p4
  cases ha : accN τ e r g most with
  | none =>
    rw [ha] at p4
    have p4' : y.1 122 4 = 496 := p4
    rw [if_pos p4']
    rfl
  | some q =>
    rw [ha] at p4
    rw [p4.1, if_neg (show ¬ nI q.1 = 496 from fun z => by have := (nI_eq (b := 496) (by have := p4.2.2.1.1; omega) (by decide)).mp z; have := p4.2.2.1.1; omega)]
    rfl
theorem m_csum {e r n k : Nat} {x1 x2 : Int32} (R : RB τ e r h) (F : RF τ e r n k h) (H : TgOk τ nm) (hn : n ≤ 13) (hS : 0 < τ 2) (kk : Int32 → Hp → Option (Int32 × Hp)) : itr3 (F_X13_cheapest_51 x1 x2 (nI n) kk) N0 0 0 h = kk (nI (cs τ n k)) h := by
  have h8 := H.1.2.2.1
  refine sq3 n (fun i => nI (sm (fun i => τ (56 + dgt (τ 2) n k i)) i)) (fun i => nI i) (fun _ => h) (fun self => ?_) (fun self i hi => ?_) (by omega) rfl rfl rfl
  · unfold F_X13_cheapest_51
    rw [if_pos (nI_le (Nat.le_refl _) (by omega))]
    rfl
  · have dl := dgt_lt hS n k i
    have hsum : sm (fun i => τ (56 + dgt (τ 2) n k i)) (i + 1) = sm (fun i => τ (56 + dgt (τ 2) n k i)) i + τ (56 + dgt (τ 2) n k i) := rfl
    unfold F_X13_cheapest_51
    rw [if_neg (nI_ge hi (by omega)), if_pos (inb_nI (by omega) (by decide)), nI_clamp (by omega), (F.1.1 i hi).1, show (56 : Int32) = nI 56 from rfl, nI_add, if_pos (inb_nI (by omega) (by decide)), lt_s0, nI_clamp (by omega), R.1 _ (by omega) (by omega), nI_add, hsum, nI_1]
theorem RB.keep2 {e r : Nat} (R : RB τ e r h) (s : Same [155, 176] h h') (hj : ∀ j, j ≠ 42 → h'.1 155 j = h.1 155 j) : RB τ e r h' := by
  obtain ⟨a, b, c, d⟩ := R
  refine ⟨?_, ?_, ?_, ?_⟩
  · rw [(s 157 (by decide)).1]; exact a
  · unfold Cache
    rw [(s 166 (by decide)).1, (s 165 (by decide)).1, (s 164 (by decide)).1]; exact b
  · rw [hj 25 (by decide)]; exact c
  · rw [hj 26 (by decide)]; exact d
theorem RF.keep2 {e r n k : Nat} (R : RF τ e r n k h) (s : Same [155, 176] h h') (hj : ∀ j, j ≠ 42 → h'.1 155 j = h.1 155 j) : RF τ e r n k h' := by
  obtain ⟨⟨a1, a2⟩, b, c⟩ := R
  refine ⟨⟨fun i hi => ?_, fun i hi b hb => ?_⟩, ?_, ?_⟩
  · rw [(s 174 (by decide)).1, (s 173 (by decide)).1]; exact a1 i hi
  · rw [(s 171 (by decide)).2.1, (s 175 (by decide)).1]; exact a2 i hi b hb
  · rw [hj 43 (by decide)]; exact b
  · rw [hj 44 (by decide)]; exact c
theorem m_cheap1 {e r n : Nat} {g : Nat → Nat} {x1 : Int32} {k1 : Int32 → Hp → Option (Int32 × Hp)} {a0 : Ac} (H : TgOk σ nm) (e0 : 0 < e) (he : e ≤ 5) (hr : r < 1000) (hn : n ≤ 5) (n1 : 1 ≤ n) (hg : ∀ b, b ≤ e → g b ≤ 9) (R : RB σ e r h) (N : RN σ e r n 0 h) (h2 : ∀ b, b ≤ e → h.1 172 b = nI (g b)) (hM : MR tp σ nm K (fdA (σ 2) fd a0) fl tn h) (ha : acOk a0) : ∃ h', itr2 (F_X13_cheapest_38 x1 (nI n) k1) N0 (acI a0) h = k1 (acI (foN σ e r g n 0 (σ 2 ^ n) a0)) h' ∧ MR tp σ nm K (fdA (σ 2) fd (foN σ e r g n 0 (σ 2 ^ n) a0)) fl tn h' ∧ RB σ e r h' ∧ Lo h h' ∧ h'.1 172 = h.1 172 ∧ acOk (foN σ e r g n 0 (σ 2 ^ n) a0) := by
  have h8 := H.1.2.2.1
  have hp := pow_le_6 h8 (show n ≤ 6 by omega)
  refine itr2_loop (F := F_X13_cheapest_38 x1 (nI n) k1) (fun q => ∃ h', q = k1 (acI (foN σ e r g n 0 (σ 2 ^ n) a0)) h' ∧ MR tp σ nm K (fdA (σ 2) fd (foN σ e r g n 0 (σ 2 ^ n) a0)) fl tn h' ∧ RB σ e r h' ∧ Lo h h' ∧ h'.1 172 = h.1 172 ∧ acOk (foN σ e r g n 0 (σ 2 ^ n) a0)) (fun m x2 y => ∃ j, m = σ 2 ^ n - j ∧ j ≤ σ 2 ^ n ∧ x2 = acI (foN σ e r g n 0 j a0) ∧ acOk (foN σ e r g n 0 j a0) ∧ RN σ e r n j y ∧ RB σ e r y ∧ MR tp σ nm K (fdA (σ 2) fd (foN σ e r g n 0 j a0)) fl tn y ∧ Lo h y ∧ y.1 172 = h.1 172) ?_ (σ 2 ^ n) (acI a0) h N0 (by have := N0_big; omega) ⟨0, by omega, by omega, rfl, ha, N, R, hM, Lo.rf, rfl⟩
  intro m self x2 y ⟨j, hm, hj, hx, hok, Ny, Ry, My, Ly, gy⟩
  subst hx
  rcases m_nextRow H Ry e0 he hr (by omega) n1 Ny hj with ⟨j1, y2, f1, F1, A1⟩ | ⟨j1, y2, f1, F1⟩
  · have R2 := Ry.fs F1
    have M2 := My.fs F1
    have S0 : 0 < σ 2 := by
      apply Classical.byContradiction
      intro z
      rw [show σ 2 = 0 by omega, Nat.zero_pow (by omega)] at j1
      omega
    have g2 : y2.1 172 = h.1 172 := by rw [(F1.1 172 (by decide)).1]; exact gy
    have mg := m_meetsGoals (g := g) R2 A1 H he (by omega) (Or.inr S0) hg (fun b hb => by rw [g2]; exact h2 b hb)
    have mg' : f_X13_meetsGoals y2 = some (nI (qB σ e r g n j).toNat, y2) := mg
    have cl := cs_le H n j (Or.inr S0)
    obtain ⟨y3, f3, M3, L3, s3, j3, l3⟩ := m_keepRow M2 A1 (by omega)
    obtain ⟨a, ea⟩ : ∃ a, a = foN σ e r g n 0 j a0 := ⟨_, rfl⟩
    have es : foN σ e r g n 0 (j + 1) a0 = updA σ e r g n a j := by
      rw [ea]
      show updA σ e r g n _ (0 + j) = _
      rw [Nat.zero_add]
    rw [← ea] at hok M2 My ⊢
    have b93 : ∀ x, B_X13_cheapest_93 x1 (nI n) k1 self x (nI (cs σ n j)) y2 = (if qB σ e r g n j = true then self (nI (cs σ n j)) y3 else self x y2) := fun x => by
      unfold B_X13_cheapest_93
      rw [mg', bndS]
      cases hq : qB σ e r g n j
      · rw [if_pos (by decide)]
        rfl
      · rw [if_neg (by decide), f3, bndS]
        rfl
    have head : F_X13_cheapest_38 x1 (nI n) k1 self (acI a) y = (if (qB σ e r g n j && btr a (cs σ n j)) = true then self (nI (cs σ n j)) y3 else self (acI a) y2) := by
      unfold F_X13_cheapest_38
      rw [f1, bndS, if_neg (by decide), m_csum R2 A1 H (by omega) S0]
      cases ha2 : a with
      | none =>
        rw [if_pos (show acI none < 0 by decide), b93]
        show _ = if (qB σ e r g n j && true) = true then _ else _
        rw [Bool.and_true]
      | some q =>
        rw [ha2] at hok
        have q1 := hok.1
        show (if nI q.1 < 0 then _ else if nI q.1 ≤ nI (cs σ n j) then _ else _) = _
        rw [if_neg (nI_pos (by omega)), b93]
        by_cases hc : cs σ n j < q.1
        · rw [if_neg (nI_ge hc (by omega)), show btr (some q) (cs σ n j) = true from decide_eq_true hc, Bool.and_true]
        · rw [if_pos (nI_le (by omega) (by omega)), show btr (some q) (cs σ n j) = false from decide_eq_false hc, Bool.and_false]
          rfl
    right
    by_cases hc : (qB σ e r g n j && btr a (cs σ n j)) = true
    · have e1 : updA σ e r g n a j = some (cs σ n j, n, j) := if_pos hc
      refine ⟨σ 2 ^ n - (j + 1), nI (cs σ n j), y3, by omega, ⟨j + 1, rfl, by omega, by rw [es, e1]; rfl, by rw [es, e1]; exact ⟨by show cs σ n j ≤ 1000; omega, n1, hn⟩, Or.inr ⟨j, rfl, j1, A1.keep2 s3 j3⟩, R2.keep2 s3 j3, by rw [es, e1]; exact M3, Ly.tr (F1.lo.tr L3), by rw [(s3 172 (by decide)).1]; exact g2⟩, by rw [head, if_pos hc]⟩
    · have e1 : updA σ e r g n a j = a := if_neg hc
      refine ⟨σ 2 ^ n - (j + 1), acI a, y2, by omega, ⟨j + 1, rfl, by omega, by rw [es, e1], by rw [es, e1]; exact hok, Or.inr ⟨j, rfl, j1, A1⟩, R2, by rw [es, e1]; exact M2, Ly.tr F1.lo, g2⟩, by rw [head, if_neg hc]⟩
  · left
    refine ⟨y2, ?_, ?_, Ry.fs F1, Ly.tr F1.lo, by rw [(F1.1 172 (by decide)).1]; exact gy, ?_⟩
    · unfold F_X13_cheapest_38
      rw [f1, bndS, if_pos (by decide), j1]
    · rw [← j1]; exact My.fs F1
    · rw [← j1]; exact hok
theorem st_cheapest (x : Int32) (hI : Inv h) : ∃ v h1 h2, f_X12_cheapest x h = some (v, h1) ∧ f_X13_cheapest x h1 = some (v, h2) ∧ Inv h2 := by
  obtain ⟨tp, σ, nm, K, fd, fl, tn, hA, hC, hM⟩ := hI
  have H := hA.2.1.1
  have h8 := H.1.2.2.1
  obtain ⟨-, -, -, e3, e3', e4, e4'⟩ := H.1
  obtain ⟨h1, hg, C1, s1⟩ := c_goals hA hC
  by_cases hok : okG σ tp ∧ ∃ m, 1 ≤ m ∧ m ≤ 5 ∧ x = nI m
  · obtain ⟨ok, m, m1, m5, rfl⟩ := hok
    rcases hg with ⟨-, f1, g1⟩ | ⟨nk, -⟩
    · have gl : ∀ b, b ≤ σ 3 → tp.getD b 0 ≤ 9 := fun b hb => ok.2 b (by rw [ok.1.1]; omega)
      obtain ⟨h7, s7, k7, f7, B7⟩ := c_seekCheapest (h := h1) (e := σ 3) (r := σ 4) (most := m) (g := fun b => tp.getD b 0) C1.2.1.1 H C1.2.1.1.1.2.2.2.1 C1.2.1.1.1.2.2.2.2 (by omega) (by omega) (by omega) (fun b hb => by have := gl b hb; show tp.getD b 0 ≤ 10; omega) m5 g1 C1.2.2.2.2.2.2
      have key : ∀ x ∈ [122, 123, 124, 125, 126, 128, 129, 131, 132], x ∈ scrL := by decide
      have C7 : CR [] σ nm K fd fl tn h7 := C1.scr hA.empty (fun a z1 z2 => by have := s7 a (fun z => z2 (key a z)); exact ⟨this.1, this.2.1⟩) k7
      -- the class's heap at the end
      obtain ⟨h9, f9, C9, A9, I9⟩ : ∃ h9, f_X12_cheapest (nI m) h = some (acI (accN σ (σ 3) (σ 4) (fun b => tp.getD b 0) m), h9) ∧ CR [] σ nm K (fdA (σ 2) fd (accN σ (σ 3) (σ 4) (fun b => tp.getD b 0) m)) fl tn h9 ∧ AbOk [] σ nm K (fdA (σ 2) fd (accN σ (σ 3) (σ 4) (fun b => tp.getD b 0) m)) fl tn ∧ Hi h h9 := by
        have head : f_X12_cheapest (nI m) h = (if acI (accN σ (σ 3) (σ 4) (fun b => tp.getD b 0) m) < 0 then some (acI (accN σ (σ 3) (σ 4) (fun b => tp.getD b 0) m), h7) else bnv (f_X7_copyFrom 140 131 h7) fun h9 => some (acI (accN σ (σ 3) (σ 4) (fun b => tp.getD b 0) m), h9)) := by
          unfold f_X12_cheapest
          rw [f1, bndS, if_neg (by decide), if_neg (show ¬ nI m < (1 : Int32) from nI_nlt (b := 1) m1 (by omega)), if_pos (show nI m ≤ (5 : Int32) from nI_le (b := 5) m5 (by decide)), f7, bndS]
        have I7 : Hi h h7 := (s1.hi (by decide)).tr (s7.hi (by decide))
        rw [head]
        cases ha : accN σ (σ 3) (σ 4) (fun b => tp.getD b 0) m with
        | none => exact ⟨h7, if_pos (by decide), C7, hA.empty, I7⟩
        | some q =>
          rw [ha] at B7
          obtain ⟨b1, b2, ⟨b3, b3', b3''⟩, b4⟩ := B7
          have rc := row_copy (h := h7) (d := 140) (s := 131) (n := q.2.1) b2 (show _ ≤ 13 by omega) (show _ ≤ 5 by omega) (by decide)
          obtain ⟨h9, eh9⟩ : ∃ z, z = sI (cI h7 (131 + 1) 0 (140 + 1) 0 q.2.1) 140 1 (nI q.2.1) := ⟨_, rfl⟩
          have s9 : Same [140, 141] h7 h9 := by rw [eh9]; exact (Same.ofCI (by decide)).tr (Same.ofI (by decide))
          have S0 : 0 < σ 2 := by have := ok.1.2; omega
          refine ⟨h9, ?_, ?_, hA.empty.fnd (by show (dig (σ 2) q.2.1 q.2.2).length ≤ 13; rw [dig_len]; omega) (fun x hx => by have := dig_lt S0 q.2.1 q.2.2 x hx; omega), I7.tr (s9.hi (by decide))⟩
          · show (if nI q.1 < 0 then _ else _) = _
            rw [if_neg (nI_pos (by omega)), rc, bnvS, ← eh9]
          · refine C7.fnd hA.empty (fun a z1 z2 z3 z4 => ?_) (by rw [(s9 123 (by decide)).1]; exact k7) ?_ ?_
            · have : a ∉ [140, 141] := fun z => by
                simp only [List.mem_cons, List.not_mem_nil, or_false] at z
                rcases z with z | z
                · exact z3 z
                · exact z4 z
              exact ⟨(s9 a this).1, (s9 a this).2.1⟩
            · show h9.1 140 1 = nI (dig (σ 2) q.2.1 q.2.2).length
              rw [eh9, sI_s, dig_len]
            · intro i hi
              have hi' : i < q.2.1 := by
                have : i < (dig (σ 2) q.2.1 q.2.2).length := hi
                rw [dig_len] at this
                exact this
              show h9.1 141 i = nI ((dig (σ 2) q.2.1 q.2.2).getD i 0)
              rw [dig_dgt hi', eh9, sI_ne1 (by decide), show (141 : Nat) = 140 + 1 from rfl, cI_at, cpy_0 hi']
              exact b4 i hi'
      -- the reference
      have M1 := (hM.hi I9).keep (th_Eq 0)
      obtain ⟨g1', hg', N1, L1⟩ := m_goals hA M1
      rcases hg' with ⟨-, f2, R2, g2⟩ | ⟨nk, -⟩
      · obtain ⟨a, y, e1, q1, q2, q3, q4, q5, q6⟩ := loop3f (F := F_X13_cheapest_28 (nI m) (fun v29 h28 => some (v29, h28))) (k := fun v29 h28 => some (v29, h28)) 1 (m + 1) (by omega) (fun n a y => a = acI (accN σ (σ 3) (σ 4) (fun b => tp.getD b 0) (n - 1)) ∧ acOk (accN σ (σ 3) (σ 4) (fun b => tp.getD b 0) (n - 1)) ∧ MR [] σ nm K (fdA (σ 2) fd (accN σ (σ 3) (σ 4) (fun b => tp.getD b 0) (n - 1))) fl tn y ∧ RB σ (σ 3) (σ 4) y ∧ Lo g1' y ∧ y.1 172 = g1'.1 172) (fun self a y _ => by
            unfold F_X13_cheapest_28
            rw [if_pos (nI_lt (by omega) (by omega))]) (fun self n a y hn1 hn2 ⟨z1, z2, z3, z4, z5, z6⟩ => by
            obtain ⟨y1, j1, F1, A1, b43, b44, b73⟩ := m_begin (n := n) z4 (by omega)
            have g172 : y1.1 172 = g1'.1 172 := by rw [(F1.1 172 (by decide)).1]; exact z6
            obtain ⟨y2, j2, M2, R3, L3, g3, o3⟩ := m_cheap1 (x1 := nI m) (k1 := fun v27 h26 => self v27 (nI n + 1) h26) (n := n) (g := fun b => tp.getD b 0) H (by omega) (by omega) (by omega) (by omega) hn1 (fun b hb => gl b hb) (z4.fs F1) (Or.inl ⟨rfl, A1, b43, b44, b73⟩) (fun b hb => by rw [g172]; exact g2 b hb) (z3.fs F1) z2
            have ea : accN σ (σ 3) (σ 4) (fun b => tp.getD b 0) (n + 1 - 1) = foN σ (σ 3) (σ 4) (fun b => tp.getD b 0) n 0 (σ 2 ^ n) (accN σ (σ 3) (σ 4) (fun b => tp.getD b 0) (n - 1)) := by
              rw [show n + 1 - 1 = (n - 1) + 1 by omega]
              show foN σ (σ 3) (σ 4) (fun b => tp.getD b 0) (n - 1 + 1) 0 (σ 2 ^ (n - 1 + 1)) _ = _
              rw [show n - 1 + 1 = n by omega]
            refine ⟨_, y2, ?_, rfl, by rw [ea]; exact o3, by rw [ea]; exact M2, R3, z5.tr (F1.lo.tr L3), by rw [g3]; exact g172⟩
            unfold F_X13_cheapest_28
            rw [if_neg (nI_nlt (by omega) (by omega)), j1, bnvS, z1, j2, nI_1, ea]) (-1) g1' ⟨rfl, trivial, N1, R2, Lo.rf, rfl⟩ (by omega)
        rw [show m + 1 - 1 = m by omega] at q1 q3
        refine ⟨_, h9, y, f9, ?_, [], σ, nm, K, _, fl, tn, A9, C9.lo A9 ((th_Lo 0).tr (L1.tr q5)), q3⟩
        unfold f_X13_cheapest
        rw [lt_s0, f2, bndS, if_neg (by decide), m_isIn_t (lo := 1) (hi := 5) (a := 1) (b := 5) (j := m) g1' rfl rfl rfl m1 m5 (by decide), bndS, if_neg (by decide), li_1]
        rw [li_1] at e1
        rw [e1, q1]
      · exact absurd ok nk
    · exact absurd ok nk
  · have M1 := (hM.hi (s1.hi (by decide))).keep (th_Eq 0)
    obtain ⟨g1, hg', N1, L1⟩ := m_goals hA M1
    refine ⟨-2, h1, g1, ?_, ?_, [], σ, nm, K, fd, fl, tn, hA.empty, C1.lo hA.empty ((th_Lo 0).tr L1), N1⟩
    · unfold f_X12_cheapest
      rcases hg with ⟨ok, f1, -⟩ | ⟨-, f1⟩
      · rw [f1, bndS, if_neg (by decide)]
        by_cases x1 : x < 1
        · rw [if_pos x1]
        · rw [if_neg x1, if_neg]
          intro z
          obtain ⟨j, z1, z2, z3⟩ := in_range (x := x) (a := 1) (b := 5) (by decide) (by decide) x1 (by rw [Int32.not_lt]; exact z)
          exact hok ⟨ok, j, z1, z2, z3⟩
      · rw [f1, bndS, if_pos (by decide)]
    · unfold f_X13_cheapest
      rw [lt_s0]
      rcases hg' with ⟨ok, f2, -⟩ | ⟨-, f2⟩
      · rw [f2, bndS, if_neg (by decide)]
        rcases m_isIn x (lo := 1) (hi := 5) (a := 1) (b := 5) g1 rfl rfl (by decide) (by decide) with ⟨e, q⟩ | ⟨j, q1, q2, q3, e⟩
        · rw [e, bndS, if_pos (by decide)]
        · exact absurd ⟨ok, j, q1, q2, q3⟩ hok
      · rw [f2, bndS, if_pos (by decide)]
end TM
