section TP
variable {tp : List Nat} {σ τ : Nat → Nat} {nm nm2 : Nat → List Nat} {K : Im} {fd : List Nat} {fl : Nat} {tn : Option Tn} {h h' : Hp}
theorem m_many {v : Nat} (hv : v < 256) : f_X13_many (nI v) h = some (nI (pop v), h) := by
  have e : sm (fun m => (v.testBit m).toNat) 8 = pop v := by
    unfold pop
    simp only [sm, Nat.zero_add]
  rw [← e]
  unfold f_X13_many
  refine sq3 8 (fun i => nI (sm (fun m => (v.testBit m).toNat) i)) (fun i => nI i) (fun _ => h) (fun self => ?_) (fun self i hi => ?_) (by omega) rfl rfl rfl
  · unfold F_X13_many_4
    rw [if_pos (by decide)]
  · have hs : sm (fun m => (v.testBit m).toNat) (i + 1) = sm (fun m => (v.testBit m).toNat) i + (v.testBit i).toNat := rfl
    unfold F_X13_many_4
    rw [if_neg (show ¬ (8 : Int32) ≤ nI i from nI_ge (b := 8) hi (by decide)), m_has (by omega) (by omega), bndS, hs, nI_1]
    cases v.testBit i
    · rw [if_pos (by decide), li_0, nI_add]
      rfl
    · rw [if_neg (by decide), nI_1]
      rfl
def stL (tld : Nat → Nat → Bool) (cnt : Nat → Nat → Nat) (a : Nat) (st : Nat × Int32) (b : Nat) : Nat × Int32 := if tld a b = true then st else if st.1 < cnt a b then (cnt a b, nI (10 * a + b)) else st
def inL (tld : Nat → Nat → Bool) (cnt : Nat → Nat → Nat) (a : Nat) : Nat → Nat × Int32 → Nat × Int32
  | 0, st => st
  | b + 1, st => stL tld cnt a (inL tld cnt a b st) b
def ouL (tld : Nat → Nat → Bool) (cnt : Nat → Nat → Nat) (nb : Nat) : Nat → Nat × Int32 → Nat × Int32
  | 0, st => st
  | a + 1, st => inL tld cnt a nb (ouL tld cnt nb a st)
theorem c_most {x1 : Int32} {na nb most s0 : Nat} {tld : Nat → Nat → Bool} {sy : Nat → Nat → Nat} (J : Hp → Prop) (hJ : J h) (m1 : 1 ≤ most) (m4 : most ≤ 4) (h0 : ∀ y, J y → y.1 7 0 = nI nb) (hna : ∀ y, J y → (if x1 = 0 then y.1 7 2 else y.1 7 0) = nI na) (na8 : na ≤ 8) (nb5 : nb ≤ 5) (hc : ∀ y, J y → ∃ y', f_X2_collectSafe 7 (nI most) y = some (nI s0, y') ∧ J y') (s8 : s0 < 256) (sy8 : ∀ a b, sy a b < 256) (hT : ∀ y a b, J y → a < na → b < nb → f_X10_isTold 7 x1 (nI a) (nI b) y = some (nI (tld a b).toNat, y)) (hU : ∀ y a b, J y → a < na → b < nb → tld a b = false → ∃ y1 y2 y3, f_X10_turnTold 7 x1 (nI a) (nI b) y = some y1 ∧ f_X2_collectSafe 7 (nI most) y1 = some (nI (sy a b), y2) ∧ f_X10_turnTold 7 x1 (nI a) (nI b) y2 = some y3 ∧ J y3) : ∃ h', f_X12_mostSayableWith x1 (nI most) h = some ((ouL tld (fun a b => pop (sy a b)) nb na (pop s0, -1)).2, h') ∧ J h' := by
  have cl : ∀ a b, pop (sy a b) ≤ 8 := fun a b => pop_le _ (sy8 a b)
  obtain ⟨g, f1, Jg⟩ := hc h hJ
  obtain ⟨a1, a2, y, e1, ⟨p1, p1', p2⟩, p3⟩ := loop4n (F := F_X12_mostSayableWith_57 x1 (nI most) (nI na) (fun v26 h25 => some (v26, h25))) (k := fun _ v26 h25 => some (v26, h25)) na (fun a u v y => (u = nI (ouL tld (fun a b => pop (sy a b)) nb a (pop s0, -1)).1 ∧ v = (ouL tld (fun a b => pop (sy a b)) nb a (pop s0, -1)).2 ∧ (ouL tld (fun a b => pop (sy a b)) nb a (pop s0, -1)).1 ≤ 8) ∧ J y) (fun self u v y _ => by
      unfold F_X12_mostSayableWith_57
      rw [if_pos (nI_le (Nat.le_refl _) (by omega))]) (fun self a u v y ha ⟨⟨z1, z2, z3⟩, Jy⟩ => by
      obtain ⟨st, est⟩ : ∃ st, st = ouL tld (fun a b => pop (sy a b)) nb a (pop s0, -1) := ⟨_, rfl⟩
      rw [← est] at z1 z2 z3
      obtain ⟨b1, b2, y2, e2, ⟨q1, q1', q2⟩, q3⟩ := loop4n (F := F_X12_mostSayableWith_67 x1 (nI most) (nI na) (nI a) (fun v23 v24 h22 => self v23 v24 (nI a + 1) h22)) (k := fun v23 v24 h22 => self v23 v24 (nI a + 1) h22) nb (fun b u v y => (u = nI (inL tld (fun a b => pop (sy a b)) a b st).1 ∧ v = (inL tld (fun a b => pop (sy a b)) a b st).2 ∧ (inL tld (fun a b => pop (sy a b)) a b st).1 ≤ 8) ∧ J y) (fun self u v y ⟨_, Jy⟩ => by
          unfold F_X12_mostSayableWith_67
          rw [h0 y Jy, if_pos (nI_le (Nat.le_refl _) (by omega))]) (fun self b u v y hb ⟨⟨w1, w2, w3⟩, Jy⟩ => by
          obtain ⟨sb, esb⟩ : ∃ sb, sb = inL tld (fun a b => pop (sy a b)) a b st := ⟨_, rfl⟩
          have es : inL tld (fun a b => pop (sy a b)) a (b + 1) st = stL tld (fun a b => pop (sy a b)) a sb b := by rw [esb]; rfl
          rw [← esb] at w1 w2 w3
          rw [es]
          unfold F_X12_mostSayableWith_67 stL
          rw [h0 y Jy, if_neg (nI_ge hb (by omega)), hT y a b Jy ha hb, bndS]
          cases ht : tld a b
          · obtain ⟨y1, y2, y3, f1, f2, f3, J3⟩ := hU y a b Jy ha hb ht
            have c8 := cl a b
            refine ⟨_, _, y3, ?_, ⟨rfl, rfl, ?_⟩, J3⟩
            · rw [if_pos (by decide), f1, bnvS, f2, bndS, c_bc (sy8 a b), bndS, f3, bnvS, w1, w2]
              simp only [Bool.false_eq_true, ↓reduceIte]
              unfold B_X12_mostSayableWith_140
              by_cases hlt : sb.1 < pop (sy a b)
              · rw [if_neg (nI_ge hlt (by omega)), if_pos hlt, lt_s0, maxT (by omega) (by omega), li_10, pk_mul, nI_add, nI_1]
              · rw [if_pos (nI_le (by omega) (by omega)), if_neg hlt, lt_s0, maxF (by omega) (by omega), nI_1]
            · rw [if_neg (by decide)]
              by_cases hlt : sb.1 < pop (sy a b)
              · rw [if_pos hlt]; exact c8
              · rw [if_neg hlt]; exact w3
          · refine ⟨_, _, y, ?_, ⟨rfl, rfl, ?_⟩, Jy⟩
            · rw [if_neg (by decide), if_pos rfl, w1, w2, nI_1]
            · rw [if_pos rfl]; exact w3) u v y ⟨⟨z1, z2, z3⟩, Jy⟩ (by omega)
      refine ⟨b1, b2, y2, ?_, ⟨?_, ?_, ?_⟩, q3⟩
      · unfold F_X12_mostSayableWith_57
        rw [if_neg (nI_ge ha (by omega)), li_0, e2, nI_1]
      · show b1 = nI (inL tld (fun a b => pop (sy a b)) a nb (ouL tld (fun a b => pop (sy a b)) nb a (pop s0, -1))).1
        rw [← est]; exact q1
      · show b2 = (inL tld (fun a b => pop (sy a b)) a nb (ouL tld (fun a b => pop (sy a b)) nb a (pop s0, -1))).2
        rw [← est]; exact q1'
      · show (inL tld (fun a b => pop (sy a b)) a nb (ouL tld (fun a b => pop (sy a b)) nb a (pop s0, -1))).1 ≤ 8
        rw [← est]; exact q2) (nI (pop s0)) (-1) g ⟨⟨rfl, rfl, pop_le _ s8⟩, Jg⟩ (by omega)
  refine ⟨y, ?_, p3⟩
  have hna' := hna g Jg
  unfold f_X12_mostSayableWith
  rw [if_neg (show ¬ nI most < (1 : Int32) from nI_nlt (b := 1) m1 (by omega)), if_pos (show nI most ≤ (4 : Int32) from nI_le (b := 4) m4 (by decide)), f1, bndS, c_bc s8, bndS, lt_s0, lt_s0]
  by_cases hx : x1 = 0
  · rw [if_pos hx] at hna' ⊢
    rw [hna', li_0]
    rw [e1, p1']
  · rw [if_neg hx] at hna' ⊢
    rw [hna', li_0]
    rw [e1, p1']
theorem isZ_b (b : Bool) : isZ (nI b.toNat) = true := by cases b <;> decide
theorem pair_u {a b a' b' : Nat} (hb : b < 5) (hb' : b' < 5) (h : 5 * a + b = 5 * a' + b') : a = a' ∧ b = b' := by omega
theorem st_link (x : Int32) (hI : Inv h) : ∃ v h1 h2, f_X12_link x h = some (v, h1) ∧ f_X13_link x h1 = some (v, h2) ∧ Inv h2 := by
  obtain ⟨tp, σ, nm, K, fd, fl, tn, hA, hC, hM⟩ := hI
  have H := hA.2.1.1
  have h8 := H.1.2.2.1
  have s5 := H.1.1
  obtain ⟨-, -, -, e3, e3', e4, e4'⟩ := H.1
  have M1 := hM.keep (th_Eq 0)
  by_cases hx : ∃ m, 1 ≤ m ∧ m ≤ 4 ∧ x = nI m
  · obtain ⟨m, m1, m4, rfl⟩ := hx
    obtain ⟨tld, etl⟩ : ∃ tld : Nat → Nat → Bool, tld = fun a b => decide (σ (15 + 5 * a + b) = 1) := ⟨_, rfl⟩
    obtain ⟨sy, esy⟩ : ∃ sy : Nat → Nat → Nat, sy = fun a b => syb (fwS σ a b) (σ 3) (σ 4) m := ⟨_, rfl⟩
    have sy8 : ∀ a b, sy a b < 256 := fun a b => by rw [esy]; exact syb_lt ..
    have tlF : ∀ {a b}, a < σ 0 → b < σ 0 → tld a b = false → σ (15 + 5 * a + b) = 0 := fun {a b} ha hb ht => by
      rw [etl] at ht
      have := of_decide_eq_false ht
      have := H.2.1 (15 + 5 * a + b) (by omega) (by omega)
      omega
    have TJ : ∀ y, Same [122, 123, 124, 125, 126, 127, 129] h y → TgRep y 7 σ nm := fun y s => hC.2.1.1.kept (fun q z1 z2 => ⟨(s q (by simp; omega)).1, (s q (by simp; omega)).2.1⟩)
    obtain ⟨h1, f1, s1, k1⟩ := c_most (h := h) (x1 := 1) (na := σ 0) (nb := σ 0) (most := m) (s0 := syb σ (σ 3) (σ 4) m) (tld := tld) (sy := sy) (fun y => Same [122, 123, 124, 125, 126, 127, 129] h y ∧ y.1 123 8 = -1) ⟨Same.rf, hC.2.2.2.2.2.2⟩ m1 m4 (fun y ⟨s, _⟩ => (TJ y s).1.1) (fun y ⟨s, _⟩ => by rw [if_neg (by decide)]; exact (TJ y s).1.1) (by omega) s5 (fun y ⟨s, k⟩ => by
        obtain ⟨y', g1, g2, g3⟩ := c_collectSafe (most := m) (TJ y s) H (by omega) k
        exact ⟨y', g1, s.tr g2, g3⟩) (syb_lt ..) sy8 (fun y a b ⟨s, _⟩ ha hb => by
        unfold f_X10_isTold
        rw [if_neg (by decide), c_mayFollow (TJ y s) H (show a < 6 by omega) (show b < 5 by omega), bndS, if_pos (isZ_b _), etl]
        have : fol σ a b = σ (15 + 5 * a + b) := if_neg (by omega)
        rw [this]) (fun y a b ⟨s, k⟩ ha hb ht => by
        have h0 := tlF ha hb ht
        have T := TJ y s
        have al := ahd_lt H (k := b) (by omega)
        have Hf := H.fw ha hb
        have al2 := ahd_lt Hf (k := b) (by omega)
        obtain ⟨xf, -⟩ := ahd_fw H ha hb h0
        have g1 := c_turnF (h := y) (t := 7) (a := a) (b := b) (by omega) (by omega) al (T.2.2.2.1.1 b (by omega))
        rw [xf] at g1
        have T1 := T.fw H ha hb h0
        obtain ⟨y1, ey1⟩ : ∃ z, z = sL y (7 + 4) b (lN (ahd (fwS σ a b) b)) := ⟨_, rfl⟩
        rw [← ey1] at g1 T1
        obtain ⟨y2, g2, g3, g4⟩ := c_collectSafe (most := m) T1 Hf (by omega) (by rw [ey1]; exact k)
        have e33 : fwS σ a b 3 = σ 3 := fwS_n (by omega)
        have e44 : fwS σ a b 4 = σ 4 := fwS_n (by omega)
        rw [e33, e44] at g2
        have c2 : y2.2.1 (7 + 4) b = lN (ahd (fwS σ a b) b) := by rw [(g3 (7 + 4) (by decide)).2.1, ey1, sL_s]
        have g5 := c_turnF (h := y2) (t := 7) (a := a) (b := b) (by omega) (by omega) al2 c2
        rw [← xf, Nat.xor_assoc, Nat.xor_self, Nat.xor_zero] at g5
        refine ⟨y1, y2, sL y2 (7 + 4) b (lN (ahd σ b)), ?_, by rw [g2, esy], ?_, fun q hq => ?_, g4⟩
        · unfold f_X10_turnTold
          rw [if_neg (by decide), g1, bnvS]
        · unfold f_X10_turnTold
          rw [if_neg (by decide), g5, bnvS]
        · have sq := s q hq
          have gq := g3 q hq
          refine ⟨gq.1.trans (by rw [ey1]; exact sq.1), ?_, gq.2.2.trans (by rw [ey1]; exact sq.2.2)⟩
          funext j
          by_cases hj : q = 7 + 4 ∧ j = b
          · rw [hj.1, hj.2, sL_s]
            exact ((congrFun (s 11 (by decide)).2.1 b).symm.trans (T.2.2.2.1.1 b (by omega))).symm
          · rw [sL2, if_neg hj, gq.2.1, ey1, sL2, if_neg hj, sq.2.1])
    -- the reference
    have C1 : CR tp σ nm K fd fl tn h1 := by
      refine hC.scr hA (fun a z1 z2 => ?_) k1
      have key : ∀ x ∈ [122, 123, 124, 125, 126, 127, 129], x ∈ scrL := by decide
      have := s1 a (fun z => z2 (key a z))
      exact ⟨this.1, this.2.1⟩
    have Mg := (hM.hi (s1.hi (by decide))).keep (th_Eq 0)
    obtain ⟨y1, j1, z1, z2, z3, z4, z5⟩ := m_settle Mg H
    have N1 := Mg.settled z1 z2 z3 z4 z5
    have R1 := RB.ofM N1 z5
    obtain ⟨y2, j2, F2⟩ := m_sayableIn (most := m) H (by omega) (by omega) (by omega) (by omega) R1
    obtain ⟨st0, est0⟩ : ∃ st0, st0 = (pop (syb σ (σ 3) (σ 4) m), (-1 : Int32)) := ⟨_, rfl⟩
    have p08 : st0.1 ≤ 8 := by rw [est0]; exact pop_le _ (syb_lt ..)
    obtain ⟨u1, u2, y3, e4, ⟨q1, q2, q3⟩, F3⟩ := loop4n (F := F_X13_link_34 (nI m) (fun v28 h27 => some (v28, h27))) (k := fun v28 _ h27 => some (v28, h27)) (σ 0) (fun a u v y => (u = (ouL tld (fun a b => pop (sy a b)) (σ 0) a st0).2 ∧ v = nI (ouL tld (fun a b => pop (sy a b)) (σ 0) a st0).1 ∧ (ouL tld (fun a b => pop (sy a b)) (σ 0) a st0).1 ≤ 8) ∧ FS y1 y) (fun self u v y ⟨_, Fy⟩ => by
        unfold F_X13_link_34
        rw [li_0, clp (n := 0) (by omega), (R1.fs Fy).1 0 (by omega) (by omega), if_pos (nI_le (Nat.le_refl _) (by omega))]) (fun self a u v y ha ⟨⟨w1, w2, w3⟩, Fy⟩ => by
        obtain ⟨st, est⟩ : ∃ st, st = ouL tld (fun a b => pop (sy a b)) (σ 0) a st0 := ⟨_, rfl⟩
        rw [← est] at w1 w2 w3
        obtain ⟨b1, b2, z, e2, ⟨q1, q2, q3⟩, Fz⟩ := loop4n (F := F_X13_link_48 (nI m) (nI a) (fun v25 v26 h24 => self v25 v26 (nI a + 1) h24)) (k := fun v25 v26 h24 => self v25 v26 (nI a + 1) h24) (σ 0) (fun b u v y => (u = (inL tld (fun a b => pop (sy a b)) a b st).2 ∧ v = nI (inL tld (fun a b => pop (sy a b)) a b st).1 ∧ (inL tld (fun a b => pop (sy a b)) a b st).1 ≤ 8) ∧ FS y1 y) (fun self u v y ⟨_, Fy⟩ => by
            unfold F_X13_link_48
            rw [li_0, clp (n := 0) (by omega), (R1.fs Fy).1 0 (by omega) (by omega), if_pos (nI_le (Nat.le_refl _) (by omega))]) (fun self b u v y hb ⟨⟨w1, w2, w3⟩, Fy⟩ => by
            have Ry := R1.fs Fy
            obtain ⟨sb, esb⟩ : ∃ sb, sb = inL tld (fun a b => pop (sy a b)) a b st := ⟨_, rfl⟩
            have es : inL tld (fun a b => pop (sy a b)) a (b + 1) st = stL tld (fun a b => pop (sy a b)) a sb b := by rw [esb]; rfl
            rw [← esb] at w1 w2 w3
            have c166 : y.1 166 (5 * a + b) = nI (σ (15 + 5 * a + b)) := by rw [Ry.2.1.1 _ (by omega), ← Nat.add_assoc]
            have i5 : 5 * nI a + nI b = nI (5 * a + b) := by rw [li_5, pk_mul, nI_add]
            rw [es]
            unfold F_X13_link_48 stL
            rw [li_0, clp (n := 0) (by omega), Ry.1 0 (by omega) (by omega), if_neg (nI_ge hb (by omega)), i5, if_pos (inb_nI (by omega) (by decide)), if_pos (inb_nI (by omega) (by decide)), nI_clamp (by omega), c166]
            cases ht : tld a b
            · have h0 := tlF ha hb ht
              have Hf := H.fw ha hb
              obtain ⟨y15, ey15⟩ : ∃ z, z = sI y 166 (5 * a + b) 1 := ⟨_, rfl⟩
              have R15 : RB (fwS σ a b) (σ 3) (σ 4) y15 := by
                obtain ⟨r1, ⟨r2, r3, r4⟩, r5, r6⟩ := Ry
                rw [ey15]
                refine ⟨fun k hk hk2 => ?_, ⟨fun k hk => ?_, fun k hk => ?_, fun k hk set hset => ?_⟩, ?_, ?_⟩
                · rw [sI_ne1 (by decide), fwS_n (by omega)]; exact r1 k hk hk2
                · by_cases z : k = 5 * a + b
                  · rw [z, sI_s, ← Nat.add_assoc, fwS_y]; rfl
                  · rw [sI_nk1 z, fwS_n (by omega)]; exact r2 k hk
                · rw [sI_ne1 (by decide), fwS_n (by omega)]; exact r3 k hk
                · rw [sI_ne1 (by decide), r4 k hk set hset]
                  congr 1
                  unfold img img4
                  dsimp only
                  rw [fwS_n (by omega), fwS_n (by omega), fwS_n (by omega), fwS_n (by omega), fwS_n (by omega), fwS_n (by omega), fwS_n (by omega), fwS_n (by omega)]
                · rw [sI_ne1 (by decide)]; exact r5
                · rw [sI_ne1 (by decide)]; exact r6
              obtain ⟨y16, g1, G1⟩ := m_sayableIn (most := m) Hf (by omega) (by omega) (by omega) (by omega) R15
              have g1' : f_X13_sayableIn (nI m) y15 = some (nI (sy a b), y16) := by rw [g1, esy]
              have c8 : pop (sy a b) ≤ 8 := pop_le _ (sy8 a b)
              obtain ⟨y21, ey21⟩ : ∃ z, z = sI y16 166 (5 * a + b) 0 := ⟨_, rfl⟩
              have G2 : FS y y21 := by
                refine ⟨fun q hq => ?_, fun j h1 h2 => ?_, ?_⟩
                · have gq := G1.1 q hq
                  by_cases hq6 : q = 166
                  · subst hq6
                    refine ⟨funext fun j => ?_, ?_, ?_⟩
                    · rw [ey21]
                      by_cases hj : j = 5 * a + b
                      · rw [hj, sI_s, c166, h0]; rfl
                      · rw [sI_nk1 hj, gq.1, ey15, sI_nk1 hj]
                    · rw [ey21]; exact gq.2.1.trans (by rw [ey15]; rfl)
                    · rw [ey21]; exact gq.2.2.trans (by rw [ey15]; rfl)
                  · refine ⟨funext fun j => ?_, ?_, ?_⟩
                    · rw [ey21, sI_ne1 hq6, gq.1, ey15, sI_ne1 hq6]
                    · rw [ey21]; exact gq.2.1.trans (by rw [ey15]; rfl)
                    · rw [ey21]; exact gq.2.2.trans (by rw [ey15]; rfl)
                · rw [ey21, sI_ne1 (by decide), G1.2.1 j h1 h2, ey15, sI_ne1 (by decide)]
                · rw [ey21]; exact G1.2.2.trans (by rw [ey15]; rfl)
              refine ⟨_, _, y21, ?_, ⟨rfl, rfl, ?_⟩, Fy.tr G2⟩
              · rw [h0, if_neg (by decide), lt_s0, ← ey15, g1', bndS, m_many (sy8 a b), bndS, if_pos (inb_nI (by omega) (by decide)), lt_s0]
                rw [show sI y16 166 (5 * a + b) (nI 0) = y21 from ey21.symm, w1, w2]
                simp only [Bool.false_eq_true, ↓reduceIte]
                by_cases hlt : sb.1 < pop (sy a b)
                · rw [if_pos (nI_lt hlt (by omega)), if_pos hlt, lt_s0, li_10, pk_mul, nI_add, nI_1]
                · rw [if_neg (nI_nlt (by omega) (by omega)), if_neg hlt, nI_1]
              · rw [if_neg (by decide)]
                by_cases hlt : sb.1 < pop (sy a b)
                · rw [if_pos hlt]; exact c8
                · rw [if_neg hlt]; exact w3
            · have h1' : σ (15 + 5 * a + b) = 1 := by rw [etl] at ht; exact of_decide_eq_true ht
              refine ⟨_, _, y, ?_, ⟨rfl, rfl, ?_⟩, Fy⟩
              · rw [h1', if_pos (by decide), if_pos rfl, w1, w2, nI_1]
              · rw [if_pos rfl]; exact w3) u v y ⟨⟨w1, w2, w3⟩, Fy⟩ (by omega)
        refine ⟨b1, b2, z, ?_, ⟨?_, ?_, ?_⟩, Fz⟩
        · unfold F_X13_link_34
          rw [li_0, clp (n := 0) (by omega), (R1.fs Fy).1 0 (by omega) (by omega), if_neg (nI_ge ha (by omega)), e2, nI_1]
        · show b1 = (inL tld (fun a b => pop (sy a b)) a (σ 0) (ouL tld (fun a b => pop (sy a b)) (σ 0) a st0)).2
          rw [← est]; exact q1
        · show b2 = nI (inL tld (fun a b => pop (sy a b)) a (σ 0) (ouL tld (fun a b => pop (sy a b)) (σ 0) a st0)).1
          rw [← est]; exact q2
        · show (inL tld (fun a b => pop (sy a b)) a (σ 0) (ouL tld (fun a b => pop (sy a b)) (σ 0) a st0)).1 ≤ 8
          rw [← est]; exact q3) (-1) (nI (pop (syb σ (σ 3) (σ 4) m))) y2 ⟨⟨by rw [est0]; rfl, by rw [est0]; rfl, p08⟩, F2⟩ (by omega)
    refine ⟨(ouL tld (fun a b => pop (sy a b)) (σ 0) (σ 0) st0).2, h1, y3, ?_, ?_, tp, σ, nm, K, fd, fl, tn, hA, C1.lo hA ((th_Lo 0).tr ((z1.lo (by decide)).tr F3.lo)), N1.fs F3⟩
    · unfold f_X12_link
      rw [f1, bndS, est0]
    · unfold f_X13_link
      rw [lt_s0, m_isIn_t (lo := 1) (hi := 4) (a := 1) (b := 4) (j := m) _ rfl rfl rfl m1 m4 (by decide), bndS, if_neg (by decide), j1, bnvS, j2, bndS, m_many (syb_lt ..), bndS]
      rw [li_0, e4, q1]
  · refine ⟨-1, h, sI h 155 0 0, ?_, ?_, tp, σ, nm, K, fd, fl, tn, hA, hC.lo hA (th_Lo 0), M1⟩
    · unfold f_X12_link f_X12_mostSayableWith
      by_cases x1 : x < 1
      · rw [if_pos x1, bndS]
      · rw [if_neg x1, if_neg, bndS]
        intro z
        obtain ⟨j, z1, z2, z3⟩ := in_range (x := x) (a := 1) (b := 4) (by decide) (by decide) x1 (by rw [Int32.not_lt]; exact z)
        exact hx ⟨j, z1, z2, z3⟩
    · unfold f_X13_link
      rw [lt_s0]
      rcases m_isIn x (lo := 1) (hi := 4) (a := 1) (b := 4) (sI h 155 0 0) rfl rfl (by decide) (by decide) with ⟨e, q⟩ | ⟨j, q1, q2, q3, e⟩
      · rw [e, bndS, if_pos (by decide)]
      · exact absurd ⟨j, q1, q2, q3⟩ hx
end TP
