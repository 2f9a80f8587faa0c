section TQ
variable {tp : List Nat} {σ τ : Nat → Nat} {nm nm2 : Nat → List Nat} {K : Im} {fd : List Nat} {fl : Nat} {tn : Option Tn} {h h' : Hp}
/-- the pair reads no more, but nothing is changed by it -/
def idS (ψ : Nat → Nat) (w q : Nat) : Nat → Nat := fun k => if 112 + 8 * (5 * w + q) ≤ k ∧ k < 120 + 8 * (5 * w + q) then k - (112 + 8 * (5 * w + q)) else ψ k
theorem idS_n {ψ : Nat → Nat} {w q k : Nat} (h2 : k < 112 + 8 * (5 * w + q) ∨ 120 + 8 * (5 * w + q) ≤ k) : idS ψ w q k = ψ k := if_neg (by omega)
theorem idS_b {ψ : Nat → Nat} {w q m : Nat} (hm : m < 8) : idS ψ w q (112 + 8 * (5 * w + q) + m) = m := by
  unfold idS
  rw [if_pos (by omega)]
  omega
theorem img_id {p set : Nat} (hs : set < 256) (hi : ∀ m, m < 8 → τ (112 + 8 * p + m) = m) : img τ p set = set := by
  rw [← img_ors hs]
  have e : ors (fun m => if set.testBit m then 2 ^ τ (112 + 8 * p + m) else 0) 8 = bts (fun m => set.testBit m) 8 := ors_cong 8 (fun m hm => by
    show (if set.testBit m then 2 ^ τ (112 + 8 * p + m) else 0) = _
    rw [hi m hm])
  rw [e]
  apply Nat.eq_of_testBit_eq
  intro i
  rw [bts_bit]
  by_cases h8 : i < 8
  · rw [decide_eq_true h8, Bool.true_and]
  · rw [decide_eq_false h8, Bool.false_and, Nat.testBit_lt_two_pow]
    exact Nat.lt_of_lt_of_le hs (Nat.pow_le_pow_right (n := 2) (by decide) (show 8 ≤ i by omega))
theorem img_other {ψ ψ' : Nat → Nat} {k : Nat} (set : Nat) (e : ∀ m, m < 8 → ψ' (112 + 8 * k + m) = ψ (112 + 8 * k + m)) : img ψ' k set = img ψ k set := by
  have e0 := e 0 (by omega)
  rw [Nat.add_zero] at e0
  unfold img img4
  dsimp only
  rw [e0, show 112 + (8 * k + 1) = 112 + 8 * k + 1 by omega, e 1 (by omega), show 112 + (8 * k + 2) = 112 + 8 * k + 2 by omega, e 2 (by omega), show 112 + (8 * k + 3) = 112 + 8 * k + 3 by omega, e 3 (by omega), show 112 + (8 * k + 4) = 112 + 8 * k + 4 by omega, e 4 (by omega), show 112 + (8 * k + 4 + 1) = 112 + 8 * k + 5 by omega, e 5 (by omega), show 112 + (8 * k + 4 + 2) = 112 + 8 * k + 6 by omega, e 6 (by omega), show 112 + (8 * k + 4 + 3) = 112 + 8 * k + 7 by omega, e 7 (by omega)]
theorem TgOk.idm (H : TgOk τ nm) {w q : Nat} (hw : w < 8) (hq : q < 5) : TgOk (idS τ w q) nm := by
  obtain ⟨a, b', c, d, f, g, i, j⟩ := H
  have lo : ∀ k, k < 112 → idS τ w q k = τ k := fun k hk => idS_n (by omega)
  refine ⟨by rw [lo _ (by omega), lo _ (by omega), lo _ (by omega), lo _ (by omega), lo _ (by omega)]; exact a, fun k h1 h2 => by rw [lo _ (by omega)]; exact b' k h1 h2, fun k h1 h2 => ?_, fun w hw => ?_, fun k h1 h2 => by rw [lo _ (by omega)]; exact f k h1 h2, fun w' h1 h2 => ?_, fun k hk => ?_, fun k h1 h2 => by rw [idS_n (by omega)]; exact j k h1 h2⟩
  · rw [lo _ (by omega)] at h1
    obtain ⟨c1, c2, c3, c4⟩ := c k h1 h2
    exact ⟨by rw [lo _ (by omega)]; exact c1, by rw [lo _ (by omega)]; exact c2, fun o ho => ⟨by rw [lo _ (by omega)]; exact (c3 o ho).1, by rw [lo _ (by omega)]; exact (c3 o ho).2⟩, fun w' hw' => by rw [lo _ (by omega)]; exact c4 w' hw'⟩
  · rw [lo _ (by omega)] at hw
    have : τ 2 ≤ 8 := a.2.2.1
    rw [lo _ (by omega), lo _ (by omega), lo _ (by omega)]
    exact d w hw
  · rw [lo _ (by omega)] at h1
    obtain ⟨g1, g2⟩ := g w' h1 h2
    exact ⟨by rw [lo _ (by omega)]; exact g1, fun k hk => by rw [lo _ (by omega)]; exact g2 k hk⟩
  · by_cases z : 112 + 8 * (5 * w + q) ≤ 112 + k ∧ 112 + k < 120 + 8 * (5 * w + q)
    · rw [show 112 + k = 112 + 8 * (5 * w + q) + (k - 8 * (5 * w + q)) by omega, idS_b (by omega)]; omega
    · rw [idS_n (by omega)]; exact i k hk
theorem st_lend (x : Int32) (hI : Inv h) : ∃ v h1 h2, f_X12_lend x h = some (v, h1) ∧ f_X13_lend x h1 = some (v, h2) ∧ Inv h2 := by
  obtain ⟨tp, σ, nm, K, fd, fl, tn, hA, hC, hM⟩ := hI
  have H := hA.2.1.1
  have h8 := H.1.2.2.1
  have s5 := H.1.1
  obtain ⟨-, -, -, e3, e3', e4, e4'⟩ := H.1
  have M1 := hM.keep (th_Eq 0)
  by_cases hx : ∃ m, 1 ≤ m ∧ m ≤ 4 ∧ x = nI m
  · obtain ⟨m, m1, m4, rfl⟩ := hx
    obtain ⟨tld, etl⟩ : ∃ tld : Nat → Nat → Bool, tld = fun a b => decide (σ (72 + 5 * a + b) = 1) := ⟨_, rfl⟩
    obtain ⟨sy, esy⟩ : ∃ sy : Nat → Nat → Nat, sy = fun a b => syb (ldS σ a b) (σ 3) (σ 4) m := ⟨_, rfl⟩
    have sy8 : ∀ a b, sy a b < 256 := fun a b => by rw [esy]; exact syb_lt ..
    have tlF : ∀ {a b}, a < σ 2 → b < σ 0 → tld a b = false → σ (72 + 5 * a + b) = 0 := fun {a b} ha hb ht => by
      rw [etl] at ht
      have := of_decide_eq_false ht
      have := H.2.2.2.2.1 (72 + 5 * a + b) (by omega) (by omega)
      omega
    have TJ : ∀ y, Same [122, 123, 124, 125, 126, 127, 129] h y → TgRep y 7 σ nm := fun y s => hC.2.1.1.kept (fun q z1 z2 => ⟨(s q (by simp; omega)).1, (s q (by simp; omega)).2.1⟩)
    obtain ⟨h1, f1, s1, k1⟩ := c_most (h := h) (x1 := 0) (na := σ 2) (nb := σ 0) (most := m) (s0 := syb σ (σ 3) (σ 4) m) (tld := tld) (sy := sy) (fun y => Same [122, 123, 124, 125, 126, 127, 129] h y ∧ y.1 123 8 = -1) ⟨Same.rf, hC.2.2.2.2.2.2⟩ m1 m4 (fun y ⟨s, _⟩ => (TJ y s).1.1) (fun y ⟨s, _⟩ => by rw [if_pos (by decide)]; exact (TJ y s).1.2.2.1) (by omega) s5 (fun y ⟨s, k⟩ => by
        obtain ⟨y', g1, g2, g3⟩ := c_collectSafe (most := m) (TJ y s) H (by omega) k
        exact ⟨y', g1, s.tr g2, g3⟩) (syb_lt ..) sy8 (fun y a b ⟨s, _⟩ ha hb => by
        unfold f_X10_isTold
        rw [if_pos (by decide), c_readsAs (TJ y s) H (show a < 8 by omega) (show b < 5 by omega), bndS, if_pos (isZ_b _), etl]) (fun y a b ⟨s, k⟩ ha hb ht => by
        have h0 := tlF ha hb ht
        have T := TJ y s
        have Hf := H.ld ha hb
        obtain ⟨xf, -⟩ := rds_ld H ha hb h0
        have g1 := c_turnR (h := y) (t := 7) (w := a) (q := b) (by omega) (by omega) (T.2.2.2.2.2.1.1 a (by omega))
        rw [xf] at g1
        have T1 := T.ld H ha hb h0
        obtain ⟨y1, ey1⟩ : ∃ z, z = sI y (7 + 8) a (nI (rds (ldS σ a b) a)) := ⟨_, rfl⟩
        rw [← ey1] at g1 T1
        obtain ⟨y2, g2, g3, g4⟩ := c_collectSafe (most := m) T1 Hf (by omega) (by rw [ey1, sI_ne1 (by decide)]; exact k)
        have e33 : ldS σ a b 3 = σ 3 := ldS_n (by omega) (by omega)
        have e44 : ldS σ a b 4 = σ 4 := ldS_n (by omega) (by omega)
        rw [e33, e44] at g2
        have c2 : y2.1 (7 + 8) a = nI (rds (ldS σ a b) a) := by rw [(g3 (7 + 8) (by decide)).1, ey1, sI_s]
        have g5 := c_turnR (h := y2) (t := 7) (w := a) (q := b) (by omega) (by omega) c2
        rw [← xf, Nat.xor_assoc, Nat.xor_self, Nat.xor_zero] at g5
        refine ⟨y1, y2, sI y2 (7 + 8) a (nI (rds σ a)), ?_, by rw [g2, esy], ?_, fun q hq => ?_, by rw [sI_ne1 (by decide)]; exact g4⟩
        · unfold f_X10_turnTold
          rw [if_pos (by decide), g1, bnvS]
        · unfold f_X10_turnTold
          rw [if_pos (by decide), g5, bnvS]
        · have sq := s q hq
          have gq := g3 q hq
          refine ⟨?_, gq.2.1.trans (by rw [ey1]; exact sq.2.1), gq.2.2.trans (by rw [ey1]; exact sq.2.2)⟩
          funext j
          by_cases hj : q = 7 + 8 ∧ j = a
          · rw [hj.1, hj.2, sI_s]
            exact ((congrFun (s 15 (by decide)).1 a).symm.trans (T.2.2.2.2.2.1.1 a (by omega))).symm
          · rw [sI1, if_neg hj, gq.1, ey1, sI1, if_neg hj, sq.1])
    have C1 : CR tp σ nm K fd fl tn h1 := by
      refine hC.scr hA (fun a z1 z2 => ?_) k1
      have key : ∀ x ∈ [122, 123, 124, 125, 126, 127, 129], x ∈ scrL := by decide
      have := s1 a (fun z => z2 (key a z))
      exact ⟨this.1, this.2.1⟩
    have Mg := (hM.hi (s1.hi (by decide))).keep (th_Eq 0)
    obtain ⟨y1, j1, z1, z2, z3, z4, z5⟩ := m_settle Mg H
    have N1 := Mg.settled z1 z2 z3 z4 z5
    have R1 := RB.ofM N1 z5
    obtain ⟨y2, j2, F2⟩ := m_sayableIn (most := m) H (by omega) (by omega) (by omega) (by omega) R1
    obtain ⟨st0, est0⟩ : ∃ st0, st0 = (pop (syb σ (σ 3) (σ 4) m), (-1 : Int32)) := ⟨_, rfl⟩
    have p08 : st0.1 ≤ 8 := by rw [est0]; exact pop_le _ (syb_lt ..)
    obtain ⟨J, eJ⟩ : ∃ J : Hp → Prop, J = fun y => (∃ ψ, Rlk ψ σ ∧ TgOk ψ nm ∧ RB ψ (σ 3) (σ 4) y) ∧ MR tp σ nm K fd fl tn y ∧ Lo y1 y := ⟨_, rfl⟩
    have J2 : J y2 := by
      rw [eJ]
      exact ⟨⟨σ, ⟨fun _ _ => rfl, fun _ _ _ _ _ => rfl⟩, H, R1.fs F2⟩, N1.fs F2, F2.lo⟩
    have J57 : ∀ y, J y → ∀ k, k < 713 → y.1 157 k = nI (σ k) := fun y hy => by rw [eJ] at hy; exact hy.2.1.2.1
    obtain ⟨u1, u2, y3, e4, ⟨q1, q2, q3⟩, J3⟩ := loop4n (F := F_X13_lend_34 (nI m) (fun v28 h27 => some (v28, h27))) (k := fun v28 _ h27 => some (v28, h27)) (σ 2) (fun a u v y => (u = (ouL tld (fun a b => pop (sy a b)) (σ 0) a st0).2 ∧ v = nI (ouL tld (fun a b => pop (sy a b)) (σ 0) a st0).1 ∧ (ouL tld (fun a b => pop (sy a b)) (σ 0) a st0).1 ≤ 8) ∧ J y) (fun self u v y ⟨_, Jy⟩ => by
        unfold F_X13_lend_34
        rw [li_2, clp (by omega), J57 y Jy 2 (by omega), if_pos (nI_le (Nat.le_refl _) (by omega))]) (fun self a u v y ha ⟨⟨w1, w2, w3⟩, Jy⟩ => by
        obtain ⟨st, est⟩ : ∃ st, st = ouL tld (fun a b => pop (sy a b)) (σ 0) a st0 := ⟨_, rfl⟩
        rw [← est] at w1 w2 w3
        obtain ⟨b1, b2, z, e2, ⟨q1, q2, q3⟩, Jz⟩ := loop4n (F := F_X13_lend_48 (nI m) (nI a) (fun v25 v26 h24 => self v25 v26 (nI a + 1) h24)) (k := fun v25 v26 h24 => self v25 v26 (nI a + 1) h24) (σ 0) (fun b u v y => (u = (inL tld (fun a b => pop (sy a b)) a b st).2 ∧ v = nI (inL tld (fun a b => pop (sy a b)) a b st).1 ∧ (inL tld (fun a b => pop (sy a b)) a b st).1 ≤ 8) ∧ J y) (fun self u v y ⟨_, Jy⟩ => by
            unfold F_X13_lend_48
            rw [li_0, clp (n := 0) (by omega), J57 y Jy 0 (by omega), if_pos (nI_le (Nat.le_refl _) (by omega))]) (fun self b u v y hb ⟨⟨w1, w2, w3⟩, Jy⟩ => by
            have c57 := J57 y Jy
            have Jy' := Jy
            rw [eJ] at Jy'
            obtain ⟨⟨ψ, P1, P2, P3⟩, My, Ly⟩ := Jy'
            obtain ⟨sb, esb⟩ : ∃ sb, sb = inL tld (fun a b => pop (sy a b)) a b st := ⟨_, rfl⟩
            have es : inL tld (fun a b => pop (sy a b)) a (b + 1) st = stL tld (fun a b => pop (sy a b)) a sb b := by rw [esb]; rfl
            rw [← esb] at w1 w2 w3
            have c165 : y.1 165 (5 * a + b) = nI (σ (72 + 5 * a + b)) := by rw [P3.2.1.2.1 _ (by omega), P1.1 _ (by omega), ← Nat.add_assoc]
            have i5 : 5 * nI a + nI b = nI (5 * a + b) := by rw [li_5, pk_mul, nI_add]
            rw [es]
            unfold F_X13_lend_48 stL
            rw [li_0, clp (n := 0) (by omega), c57 0 (by omega), if_neg (nI_ge hb (by omega)), i5, lt_s0, if_pos (inb_nI (by omega) (by decide)), if_pos (inb_nI (by omega) (by decide)), nI_clamp (by omega), c165]
            cases ht : tld a b
            · have h0 := tlF ha hb ht
              have p2 : ψ 2 = σ 2 := P1.1 2 (by omega)
              have p0 : ψ 0 = σ 0 := P1.1 0 (by omega)
              have ψ0 : ψ (72 + 5 * a + b) = 0 := by rw [P1.1 _ (by omega)]; exact h0
              have Hf := P2.ld (show a < ψ 2 by omega) (show b < ψ 0 by omega)
              obtain ⟨y16, ey16⟩ : ∃ z, z = sI y 165 (5 * a + b) 1 := ⟨_, rfl⟩
              obtain ⟨kk, ekk⟩ : ∃ kk : Hp → Option (Int32 × Hp), kk = fun h20 => bnd (f_X13_sayableIn (nI m) h20) fun v22 h21 => bnd (f_X13_many v22 h21) fun v24 h23 => if inb (nI (5 * a + b)) 40 = true then lt (sI h23 165 (5 * a + b) (nI 0)) fun h26 => lt (sI h26 155 31 1) fun h27 => (if v < v24 then lt ((10 * nI a) + nI b) fun v29 => self v29 v24 (nI b + 1) h27 else self u v (nI b + 1) h27) else none := ⟨_, rfl⟩
              obtain ⟨y20, e20, r1, r2, r3⟩ := loop2n (F := F_X13_lend_93 (nI m) u v (nI a) (nI b) (nI (5 * a + b)) kk) (k := kk) 256 (fun i z => Same [164] y16 z ∧ z.2 = y16.2 ∧ ∀ j, z.1 164 j = if 256 * (5 * a + b) ≤ j ∧ j < 256 * (5 * a + b) + i then nI (j - 256 * (5 * a + b)) else y16.1 164 j) (fun self z _ => by
                  unfold F_X13_lend_93
                  rw [if_pos (by decide)]) (fun self i z hi ⟨v1, v2, v3⟩ => by
                  refine ⟨sI z 164 (256 * (5 * a + b) + i) (nI i), ?_, v1.tr (Same.ofI (by decide)), v2, fun j => ?_⟩
                  · unfold F_X13_lend_93
                    rw [li_256, if_neg (nI_ge hi (by decide)), pk_mul, nI_add, if_pos (inb_nI (by omega) (by decide)), lt_s0, nI_clamp (by omega), nI_1]
                  · rw [sI1]
                    by_cases hj : j = 256 * (5 * a + b) + i
                    · subst hj
                      rw [if_pos ⟨rfl, rfl⟩, if_pos (by omega), show 256 * (5 * a + b) + i - 256 * (5 * a + b) = i by omega]
                    · rw [if_neg (fun z => hj z.2), v3 j]
                      by_cases hj2 : 256 * (5 * a + b) ≤ j ∧ j < 256 * (5 * a + b) + i
                      · rw [if_pos hj2, if_pos (by omega)]
                      · rw [if_neg hj2, if_neg (by omega)]) y16 ⟨Same.rf, rfl, fun j => by rw [if_neg (by omega)]⟩ (by omega)
              -- the cache with the pair told, and untold again
              have ca : ∀ (ρ : Nat → Nat) (z : Hp), (∀ k, k < 72 → ρ k = ψ k) → (∀ k, k < 40 → k ≠ 5 * a + b → ρ (72 + k) = ψ (72 + k)) → (∀ k, k < 40 → k ≠ 5 * a + b → ∀ m, m < 8 → ρ (112 + 8 * k + m) = ψ (112 + 8 * k + m)) → (∀ m, m < 8 → ρ (112 + 8 * (5 * a + b) + m) = m) → z.1 157 = y.1 157 → z.1 166 = y.1 166 → z.1 164 = y20.1 164 → (∀ k, k ≠ 5 * a + b → z.1 165 k = y.1 165 k) → z.1 165 (5 * a + b) = nI (ρ (72 + (5 * a + b))) → z.1 155 25 = y.1 155 25 → z.1 155 26 = y.1 155 26 → RB ρ (σ 3) (σ 4) z := fun ρ z a1 a2 a3 a4 b1 b2 b3 b4 b5 b6 b7 => by
                obtain ⟨t1, ⟨t2, t3, t4⟩, t5, t6⟩ := P3
                refine ⟨fun k hk hk2 => by rw [b1, a1 k hk]; exact t1 k hk hk2, ⟨fun k hk => by rw [b2, a1 _ (by omega)]; exact t2 k hk, fun k hk => ?_, fun k hk set hset => ?_⟩, by rw [b6]; exact t5, by rw [b7]; exact t6⟩
                · by_cases z : k = 5 * a + b
                  · rw [z]; exact b5
                  · rw [b4 k z, a2 k hk z]; exact t3 k hk
                · rw [b3, r3]
                  by_cases z : k = 5 * a + b
                  · rw [z, if_pos (by omega), img_id hset a4, show 256 * (5 * a + b) + set - 256 * (5 * a + b) = set by omega]
                  · rw [if_neg (by omega), ey16, sI_ne1 (by decide), t4 k hk set hset, img_other set (a3 k hk z)]
              have R20 : RB (ldS ψ a b) (σ 3) (σ 4) y20 := by
                refine ca _ _ (fun k hk => ldS_n (by omega) (by omega)) (fun k hk hne => ldS_n (by omega) (by omega)) (fun k hk hne m hm => ldS_n (by omega) (by omega)) (fun m hm => ldS_b (by omega) (by omega) hm) ?_ ?_ rfl (fun k hk => ?_) ?_ ?_ ?_
                · rw [(r1 157 (by decide)).1, ey16]; exact funext fun j => sI_ne1 (by decide)
                · rw [(r1 166 (by decide)).1, ey16]; exact funext fun j => sI_ne1 (by decide)
                · rw [(r1 165 (by decide)).1, ey16, sI_nk1 hk]
                · rw [(r1 165 (by decide)).1, ey16, sI_s, ← Nat.add_assoc, ldS_y]; rfl
                · rw [(r1 155 (by decide)).1, ey16, sI_ne1 (by decide)]
                · rw [(r1 155 (by decide)).1, ey16, sI_ne1 (by decide)]
              obtain ⟨y21, g1, G1⟩ := m_sayableIn (most := m) Hf (by omega) (by omega) (by omega) (by omega) R20
              have rl : Rlk (ldS ψ a b) (ldS σ a b) := by
                refine ⟨fun k hk => ?_, fun p hp hr mm hmm => ?_⟩
                · unfold ldS
                  by_cases zz : k = 72 + 5 * a + b
                  · rw [if_pos zz, if_pos zz]
                  · rw [if_neg zz, if_neg zz, if_neg (by omega), if_neg (by omega)]; exact P1.1 k hk
                · by_cases zz : p = 5 * a + b
                  · rw [zz, ldS_b (by omega) (by omega) hmm, ldS_b (by omega) (by omega) hmm]
                  · rw [ldS_n (by omega) (by omega)] at hr
                    rw [ldS_n (by omega) (by omega), ldS_n (by omega) (by omega)]
                    exact P1.2 p hp hr mm hmm
              have sye : syb (ldS ψ a b) (σ 3) (σ 4) m = sy a b := by rw [esy]; exact syb_rlk rl Hf.1.2.2.1 _ _ _
              rw [sye] at g1
              have c8 : pop (sy a b) ≤ 8 := pop_le _ (sy8 a b)
              obtain ⟨y27, ey27⟩ : ∃ z, z = sI (sI y21 165 (5 * a + b) (nI 0)) 155 31 1 := ⟨_, rfl⟩
              have S27 : Same [155, 164, 165, 171, 173, 174, 175, 177] y y27 := by
                rw [ey27]
                refine Same.tr (h1 := y16) (by rw [ey16]; exact Same.ofI (by decide)) (Same.tr (h1 := y20) (r1.mono (fun q hq => by simp only [List.mem_cons, List.not_mem_nil, or_false] at hq ⊢; omega)) (Same.tr (h1 := y21) (G1.1.mono (fun q hq => by simp only [List.mem_cons, List.not_mem_nil, or_false] at hq ⊢; omega)) ((Same.ofI (by decide)).tr (Same.ofI (by decide)))))
              have f27 : ∀ j, j ≠ 31 → j ≠ 43 → j ≠ 44 → y27.1 155 j = y.1 155 j := fun j h1 h2 h3 => by
                rw [ey27, sI_nk1 h1, sI_ne1 (by decide), G1.2.1 j h2 h3, (r1 155 (by decide)).1, ey16, sI_ne1 (by decide)]
              have J27 : J y27 := by
                rw [eJ]
                refine ⟨⟨idS ψ a b, ⟨fun k hk => by rw [idS_n (by omega)]; exact P1.1 k hk, fun p hp hr mm hmm => ?_⟩, P2.idm (by omega) (by omega), ?_⟩, ?_, Ly.tr (S27.lo (by decide))⟩
                · rw [idS_n (by omega)] at hr
                  have zz : p ≠ 5 * a + b := fun zz => by
                    rw [zz, ← Nat.add_assoc, ψ0] at hr
                    omega
                  rw [idS_n (by omega)]
                  exact P1.2 p hp hr mm hmm
                · refine ca _ _ (fun k hk => idS_n (by omega)) (fun k hk hne => idS_n (by omega)) (fun k hk hne m hm => idS_n (by omega)) (fun m hm => idS_b hm) (S27 157 (by decide)).1 (S27 166 (by decide)).1 ?_ (fun k hk => ?_) ?_ (f27 25 (by decide) (by decide) (by decide)) (f27 26 (by decide) (by decide) (by decide))
                  · rw [ey27]
                    refine (funext fun j => ((sI_ne1 (by decide)).trans (sI_ne1 (by decide)))).trans (G1.1 164 (by decide)).1
                  · rw [ey27, sI_ne1 (by decide), sI_nk1 hk, (G1.1 165 (by decide)).1, (r1 165 (by decide)).1, ey16, sI_nk1 hk]
                  · rw [ey27, sI_ne1 (by decide), sI_s, idS_n (by omega), ← Nat.add_assoc, ψ0]
                · refine My.mat S27 (by decide) (fun j hj => f27 j (fun z => by subst z; revert hj; decide) (fun z => by subst z; revert hj; decide) (fun z => by subst z; revert hj; decide)) ?_ (by rw [ey27, sI_s]) (fun k hk => by rw [(S27 157 (by decide)).1]; exact c57 k hk) (fun w hw => by rw [(S27 159 (by decide)).2.1]; exact My.2.2.1 w hw)
                  rw [ey27]
                  show y21.2.1 155 52 = _
                  rw [G1.2.2, r2, ey16]
                  rfl
              refine ⟨_, _, y27, ?_, ⟨rfl, rfl, ?_⟩, J27⟩
              · rw [h0, if_neg (by decide), lt_s0]
                rw [← ey16, ← ekk, e20, ekk]
                show bnd (f_X13_sayableIn (nI m) y20) _ = _
                rw [g1, bndS, m_many (sy8 a b), bndS, if_pos (inb_nI (by omega) (by decide)), lt_s0, lt_s0, ← ey27, w1, w2]
                simp only [Bool.false_eq_true, ↓reduceIte]
                by_cases hlt : sb.1 < pop (sy a b)
                · rw [if_pos (nI_lt hlt (by omega)), if_pos hlt, lt_s0, li_10, pk_mul, nI_add, nI_1]
                · rw [if_neg (nI_nlt (by omega) (by omega)), if_neg hlt, nI_1]
              · rw [if_neg (by decide)]
                by_cases hlt : sb.1 < pop (sy a b)
                · rw [if_pos hlt]; exact c8
                · rw [if_neg hlt]; exact w3
            · have h1' : σ (72 + 5 * a + b) = 1 := by rw [etl] at ht; exact of_decide_eq_true ht
              refine ⟨_, _, y, ?_, ⟨rfl, rfl, ?_⟩, Jy⟩
              · rw [h1', if_pos (by decide), if_pos rfl, w1, w2, nI_1]
              · rw [if_pos rfl]; exact w3) u v y ⟨⟨w1, w2, w3⟩, Jy⟩ (by omega)
        refine ⟨b1, b2, z, ?_, ⟨?_, ?_, ?_⟩, Jz⟩
        · unfold F_X13_lend_34
          rw [li_2, clp (by omega), J57 y Jy 2 (by omega), if_neg (nI_ge ha (by omega)), li_0, e2, nI_1]
        · show b1 = (inL tld (fun a b => pop (sy a b)) a (σ 0) (ouL tld (fun a b => pop (sy a b)) (σ 0) a st0)).2
          rw [← est]; exact q1
        · show b2 = nI (inL tld (fun a b => pop (sy a b)) a (σ 0) (ouL tld (fun a b => pop (sy a b)) (σ 0) a st0)).1
          rw [← est]; exact q2
        · show (inL tld (fun a b => pop (sy a b)) a (σ 0) (ouL tld (fun a b => pop (sy a b)) (σ 0) a st0)).1 ≤ 8
          rw [← est]; exact q3) (-1) (nI (pop (syb σ (σ 3) (σ 4) m))) y2 ⟨⟨by rw [est0]; rfl, by rw [est0]; rfl, p08⟩, J2⟩ (by omega)
    rw [eJ] at J3
    obtain ⟨-, M3, L3⟩ := J3
    refine ⟨(ouL tld (fun a b => pop (sy a b)) (σ 0) (σ 2) st0).2, h1, y3, ?_, ?_, tp, σ, nm, K, fd, fl, tn, hA, C1.lo hA ((th_Lo 0).tr ((z1.lo (by decide)).tr L3)), M3⟩
    · unfold f_X12_lend
      rw [f1, bndS, est0]
    · unfold f_X13_lend
      rw [lt_s0, m_isIn_t (lo := 1) (hi := 4) (a := 1) (b := 4) (j := m) _ rfl rfl rfl m1 m4 (by decide), bndS, if_neg (by decide), j1, bnvS, j2, bndS, m_many (syb_lt ..), bndS]
      rw [li_0, e4, q1]
  · refine ⟨-1, h, sI h 155 0 0, ?_, ?_, tp, σ, nm, K, fd, fl, tn, hA, hC.lo hA (th_Lo 0), M1⟩
    · unfold f_X12_lend f_X12_mostSayableWith
      by_cases x1 : x < 1
      · rw [if_pos x1, bndS]
      · rw [if_neg x1, if_neg, bndS]
        intro z
        obtain ⟨j, z1, z2, z3⟩ := in_range (x := x) (a := 1) (b := 4) (by decide) (by decide) x1 (by rw [Int32.not_lt]; exact z)
        exact hx ⟨j, z1, z2, z3⟩
    · unfold f_X13_lend
      rw [lt_s0]
      rcases m_isIn x (lo := 1) (hi := 4) (a := 1) (b := 4) (sI h 155 0 0) rfl rfl (by decide) (by decide) with ⟨e, q⟩ | ⟨j, q1, q2, q3, e⟩
      · rw [e, bndS, if_pos (by decide)]
      · exact absurd ⟨j, q1, q2, q3⟩ hx
end TQ
