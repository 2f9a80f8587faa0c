section TL
variable {tp : List Nat} {σ τ : Nat → Nat} {nm nm2 : Nat → List Nat} {K : Im} {fd : List Nat} {fl : Nat} {tn : Option Tn} {h h' : Hp}
/-! CHEAPEST -/
def cs (τ : Nat → Nat) (n k : Nat) : Nat := sm (fun i => τ (56 + dgt (τ 2) n k i)) n
theorem cs_s {d P w : Nat} (hw : w < τ 2) : cs τ (d + 1) (P * τ 2 + w) = cs τ d P + τ (56 + w) := by
  unfold cs
  show sm _ d + τ (56 + dgt (τ 2) (d + 1) (P * τ 2 + w) d) = _
  rw [dgt_last hw]
  congr 1
  exact sm_cong d (fun i hi => by
    show τ (56 + dgt (τ 2) (d + 1) (P * τ 2 + w) i) = _
    rw [dgt_lo hw hi])
theorem cs_le (H : TgOk τ nm) (n k : Nat) (hS : n = 0 ∨ 0 < τ 2) : cs τ n k ≤ n * 99 := by
  unfold cs
  refine sm_le n (fun i hi => ?_)
  rcases hS with z | z
  · omega
  · exact (H.2.2.2.1 _ (dgt_lt z n k i)).2.2.2.1
theorem up_next {S n k i : Nat} (hi : i < n) : up S n k (i + 1) = up S n k i * S + dgt S n k i := by
  unfold up dgt
  rw [show n - 1 - i = n - (i + 1) by omega, show n - i = (n - (i + 1)) + 1 by omega, Nat.pow_succ, ← Nat.div_div_eq_div_mul, Nat.mul_comm, Nat.div_add_mod]
theorem cs_mono {n k d : Nat} (h0 : 0 < τ 2) : ∀ j, d + j ≤ n → cs τ d (up (τ 2) n k d) ≤ cs τ (d + j) (up (τ 2) n k (d + j))
  | 0, _ => Nat.le_refl _
  | j + 1, hj => by
    have ih := cs_mono (n := n) (k := k) h0 (d := d) j (by omega)
    rw [show d + (j + 1) = d + j + 1 by omega, up_next (by omega), cs_s (dgt_lt h0 _ _ _)]
    omega
abbrev Ac : Type := Option (Nat × Nat × Nat)
def qB (τ : Nat → Nat) (e r : Nat) (g : Nat → Nat) (n k : Nat) : Bool := allP (fun b => gokB (g b) (mnt τ (rs τ e r b n k))) 0 (e + 1)
theorem qB_Qr {e r n k : Nat} {g : Nat → Nat} : Qr τ e r g none n k ↔ qB τ e r g n k = true := by
  rw [Qr_iff]
  exact ⟨fun z => z.2, fun z => ⟨fun q hq => (by cases hq), z⟩⟩
/-- is it better than what there is -/
def btr (a : Ac) (c : Nat) : Bool := match a with
  | none => true
  | some q => decide (c < q.1)
def updA (τ : Nat → Nat) (e r : Nat) (g : Nat → Nat) (n : Nat) (a : Ac) (k : Nat) : Ac := if (qB τ e r g n k && btr a (cs τ n k)) = true then some (cs τ n k, n, k) else a
def foN (τ : Nat → Nat) (e r : Nat) (g : Nat → Nat) (n a : Nat) : Nat → Ac → Ac
  | 0, q => q
  | c + 1, q => updA τ e r g n (foN τ e r g n a c q) (a + c)
theorem foN_add {e r n a : Nat} {g : Nat → Nat} {q : Ac} (c1 : Nat) : ∀ c2, foN τ e r g n a (c1 + c2) q = foN τ e r g n (a + c1) c2 (foN τ e r g n a c1 q)
  | 0 => rfl
  | c2 + 1 => by
    show updA τ e r g n (foN τ e r g n a (c1 + c2) q) (a + (c1 + c2)) = updA τ e r g n (foN τ e r g n (a + c1) c2 _) (a + c1 + c2)
    rw [foN_add c1 c2, Nat.add_assoc]
theorem foN_id {e r n a : Nat} {g : Nat → Nat} {q : Ac} : ∀ c, (∀ k, a ≤ k → k < a + c → (qB τ e r g n k && btr q (cs τ n k)) = false) → foN τ e r g n a c q = q
  | 0, _ => rfl
  | c + 1, hn => by
    show updA τ e r g n (foN τ e r g n a c q) (a + c) = q
    rw [foN_id c (fun k h1 h2 => hn k h1 (by omega))]
    unfold updA
    rw [hn (a + c) (by omega) (by omega)]
    rfl
/-- what the class keeps of the best -/
def BS (τ : Nat → Nat) (a : Ac) (h : Hp) : Prop := match a with
  | none => h.1 122 4 = 496
  | some q => h.1 122 4 = nI q.1 ∧ h.1 131 1 = nI q.2.1 ∧ (q.1 ≤ 495 ∧ 1 ≤ q.2.1 ∧ q.2.1 ≤ 5) ∧ ∀ i, i < q.2.1 → h.1 132 i = nI (dgt (τ 2) q.2.1 q.2.2 i)
def CF (h h' : Hp) : Prop := Same [122, 124, 125, 128, 129, 131, 132] h h' ∧ h'.2.2 122 = h.2.2 122
theorem CF.rf : CF h h := ⟨Same.rf, rfl⟩
theorem CF.tr {h1 h2 : Hp} (a : CF h h1) (b : CF h1 h2) : CF h h2 := ⟨a.1.tr b.1, b.2.trans a.2⟩
theorem WB.cf {e r : Nat} {g : Nat → Nat} {kb : Option Nat} {ln : Int32} (B : WB τ nm e r g kb ln h) (s : CF h h') : WB τ nm e r g kb ln h' := by
  obtain ⟨a, b, c, d, f⟩ := B
  refine ⟨a.kept (fun q z1 z2 => ⟨(s.1 q (by simp; omega)).1, (s.1 q (by simp; omega)).2.1⟩), ?_, ?_, ?_, ?_⟩
  · rw [s.2, (s.1 123 (by decide)).2.2]; exact b
  · rw [(s.1 123 (by decide)).1]; exact c
  · rw [(s.1 126 (by decide)).1]; exact d
  · rw [(s.1 127 (by decide)).1]; exact f
theorem BS.same {a : Ac} (B : BS τ a h) (s1 : h'.1 122 = h.1 122) (s2 : h'.1 131 = h.1 131) (s3 : h'.1 132 = h.1 132) : BS τ a h' := by
  cases a with
  | none => show h'.1 122 4 = _; rw [s1]; exact B
  | some q =>
    obtain ⟨a, b, c, d⟩ := B
    exact ⟨by rw [s1]; exact a, by rw [s2]; exact b, c, by rw [s3]; exact d⟩
theorem btr_lt {a : Ac} {c : Nat} (B : BS τ a h) (hc : c ≤ 495) : (nI c < h.1 122 4) = (btr a c = true) := by
  apply propext
  cases a with
  | none =>
    have B' : h.1 122 4 = 496 := B
    rw [B']
    exact ⟨fun _ => rfl, fun _ => nI_lt (b := 496) (by omega) (by decide)⟩
  | some q =>
    obtain ⟨b1, b2, b3, b4⟩ := B
    rw [b1]
    show _ ↔ decide (c < q.1) = true
    rw [decide_eq_true_eq, fa_lt, nI_toInt (by omega), nI_toInt (by omega)]
    omega
theorem c_cheaper {e r n : Nat} {g : Nat → Nat} (H : TgOk τ nm) (he : e ≤ 5) (hg : ∀ b, b ≤ e → g b ≤ 10) (n1 : 1 ≤ n) (hn : n ≤ 5) : ∀ (m d P : Nat) (h : Hp) (a : Ac) (f : Nat), d + m = n → m < f → (d = 0 ∨ 0 < τ 2) → WB τ nm e r g none (nI n) h → WL τ e r g none d P h → BS τ a h → (m = 0 → Qr τ e r g none n P) → ∃ h', itr3 E_X2_seekCheaper f (nI d) (nI (cs τ d P)) h = some h' ∧ CF h h' ∧ WL τ e r g none d P h' ∧ BS τ (foN τ e r g n (P * τ 2 ^ m) (τ 2 ^ m) a) h' := by
  have h8 := H.1.2.2.1
  intro m
  induction m with
  | zero =>
    intro d P h a f hdm hf hS B L hB hQ
    obtain ⟨f, rfl⟩ : ∃ q, f = q + 1 := ⟨f - 1, by omega⟩
    have hd : d = n := by omega
    subst hd
    have cl := cs_le H d P hS
    have fo1 : foN τ e r g d (P * τ 2 ^ 0) (τ 2 ^ 0) a = updA τ e r g d a P := by
      rw [Nat.pow_zero, Nat.mul_one]
      rfl
    have q1 := qB_Qr.mp (hQ rfl)
    rw [fo1]
    show ∃ h', E_X2_seekCheaper _ _ _ _ = _ ∧ _
    unfold E_X2_seekCheaper
    have bl := btr_lt hB (c := cs τ d P) (by omega)
    by_cases hb : btr a (cs τ d P) = true
    · have e1 : updA τ e r g d a P = some (cs τ d P, d, P) := by
        unfold updA
        rw [q1, hb]
        rfl
      obtain ⟨h15, eh15⟩ : ∃ z, z = sI (sI h 122 4 (nI (cs τ d P))) 128 1 (nI d) := ⟨_, rfl⟩
      have rc := row_copy (h := h15) (d := 131) (s := 128) (n := d) (by rw [eh15, sI_s]) (show _ ≤ 5 by omega) (show _ ≤ 13 by omega) (by decide)
      obtain ⟨h16, eh16⟩ : ∃ z, z = sI (cI h15 (128 + 1) 0 (131 + 1) 0 d) 131 1 (nI d) := ⟨_, rfl⟩
      refine ⟨h16, ?_, ⟨?_, ?_⟩, ⟨fun i hi => ?_, fun i hi b hb h9 => ?_, fun q hq => by cases hq⟩, ?_⟩
      · rw [if_pos (by rw [bl]; exact hb), B.2.2.1.2.1, if_neg (nI_nlt (Nat.le_refl _) (by omega)), lt_s0, lt_s0, ← eh15, rc, bnvS, ← eh16]
      · rw [eh16, eh15]
        exact (((Same.ofI (by decide)).tr (Same.ofI (by decide))).tr (Same.ofCI (by decide))).tr (Same.ofI (by decide))
      · rw [eh16, eh15]; rfl
      · rw [eh16, sI_ne1 (by decide), cI_ne1 (by decide), eh15, sI_ne1 (by decide), sI_ne1 (by decide)]
        exact L.1 i hi
      · rw [eh16, eh15]
        exact L.2.1 i hi b hb h9
      · rw [e1]
        refine ⟨?_, ?_, ⟨by show cs τ d P ≤ 495; omega, n1, hn⟩, fun i hi => ?_⟩
        · rw [eh16, sI_ne1 (by decide), cI_ne1 (by decide), eh15, sI_ne1 (by decide), sI_s]
        · rw [eh16, sI_s]
        · have hi' : i < d := hi
          rw [eh16, sI_ne1 (by decide), show (132 : Nat) = 131 + 1 from rfl, cI_at, cpy_0 hi', eh15, sI_ne1 (by decide), sI_ne1 (by decide)]
          exact L.1 i hi'
    · have e1 : updA τ e r g d a P = a := by
        unfold updA
        rw [Bool.eq_false_iff.mpr hb, Bool.and_false]
        rfl
      refine ⟨h, ?_, CF.rf, L, by rw [e1]; exact hB⟩
      rw [if_neg (by rw [bl]; exact hb)]
  | succ m ih =>
    intro d P h a f hdm hf hS B L hB _
    obtain ⟨f, rfl⟩ : ∃ q, f = q + 1 := ⟨f - 1, by omega⟩
    have cl := cs_le H d P hS
    have bl := btr_lt hB (c := cs τ d P) (by omega)
    have fe2 : ∀ rec, E_X2_seekCheaper rec (nI d) (nI (cs τ d P)) h = (if nI (cs τ d P) < (h.1 122 4) then if nI d < (h.1 123 7) then itr2 (F_X2_seekCheaper_53 rec (nI d) (nI (cs τ d P)) (fun h13 => some h13)) N0 0 h else lt (sI h 122 4 (nI (cs τ d P))) fun h14 => lt (sI h14 128 1 (nI d)) fun h15 => bnv (f_X7_copyFrom 131 128 h15) fun h16 => some h16 else some h) := fun rec => rfl
    have fe : itr3 E_X2_seekCheaper (f + 1) (nI d) (nI (cs τ d P)) h = E_X2_seekCheaper (itr3 E_X2_seekCheaper f) (nI d) (nI (cs τ d P)) h := rfl
    rw [fe, fe2]
    by_cases hb : btr a (cs τ d P) = true
    · obtain ⟨y, e1, p1, p2, p3⟩ := loop2n (F := F_X2_seekCheaper_53 (itr3 E_X2_seekCheaper f) (nI d) (nI (cs τ d P)) (fun h13 => some h13)) (k := fun h13 => some h13) (τ 2) (fun w y => CF h y ∧ WL τ e r g none d P y ∧ BS τ (foN τ e r g n (P * τ 2 ^ (m + 1)) (w * τ 2 ^ m) a) y) (fun self y ⟨z1, _⟩ => by
          have By := B.cf z1
          unfold F_X2_seekCheaper_53
          rw [lt_s0, By.2.1.2, if_pos (by decide), By.1.1.2.2.1, if_pos (nI_le (Nat.le_refl _) (by omega))]) (fun self w y hw ⟨z1, z2, z3⟩ => by
          have By := B.cf z1
          have hl : (nI (d + 1) = nI n) = (decide (d + 1 = n) = true) := by
            rw [decide_eq_true_eq]
            exact propext (nI_eq (by omega) (by omega))
          have sm1 := sub_mul P (τ 2) w m
          have pm : (w + 1) * τ 2 ^ m = w * τ 2 ^ m + τ 2 ^ m := by rw [Nat.add_mul, Nat.one_mul]
          have sm3 : (P * τ 2 + w + 1) * τ 2 ^ m = (P * τ 2 + w) * τ 2 ^ m + τ 2 ^ m := by rw [Nat.add_mul, Nat.one_mul]
          have fo2 : foN τ e r g n (P * τ 2 ^ (m + 1)) ((w + 1) * τ 2 ^ m) a = foN τ e r g n ((P * τ 2 + w) * τ 2 ^ m) (τ 2 ^ m) (foN τ e r g n (P * τ 2 ^ (m + 1)) (w * τ 2 ^ m) a) := by rw [pm, foN_add, sm1]
          obtain ⟨v, y2, f1, s1, B1, L0, o1, L1⟩ := c_put (last := decide (d + 1 = n)) By z2 H he (by omega) hw hg (fun q hq => by cases hq) hl
          have F1 : CF y y2 := ⟨s1.mono (fun q hq => by simp only [List.mem_cons, List.not_mem_nil, or_false] at hq ⊢; omega), (s1 122 (by decide)).2.2⟩
          have B3 := z3.same (h' := y2) (s1 122 (by decide)).1 (s1 131 (by decide)).1 (s1 132 (by decide)).1
          have head : F_X2_seekCheaper_53 (itr3 E_X2_seekCheaper f) (nI d) (nI (cs τ d P)) (fun h13 => some h13) self (nI w) y = (if nI v.toNat = 0 then self (nI (w + 1)) y2 else bnv (itr3 E_X2_seekCheaper f (nI (d + 1)) (nI (cs τ (d + 1) (P * τ 2 + w))) y2) fun h12 => self (nI (w + 1)) h12) := by
            have c7 : y2.1 (7 + 7) w = nI (τ (56 + w)) := (B1.1.2.2.2.2.1 w hw).2.2
            unfold F_X2_seekCheaper_53
            rw [lt_s0, By.2.1.2, if_pos (by decide), By.1.1.2.2.1, if_neg (nI_ge hw (by omega)), f1, bndS, lt_s0, B1.2.1.2, if_pos (show isO 8 7 = true by decide), if_pos (show inb (nI w) 8 = true from inb_nI (by omega) (by decide)), nI_clamp (by omega), c7, nI_add, cs_s hw, nI_1, nI_1]
          rw [head]
          cases hv : v with
          | false =>
            refine ⟨y2, by rw [if_pos (by decide)], z1.tr F1, L0, ?_⟩
            have no : ∀ k, (P * τ 2 + w) * τ 2 ^ m ≤ k → k < (P * τ 2 + w) * τ 2 ^ m + τ 2 ^ m → qB τ e r g n k = false := fun k h1 h2 => by
              apply Bool.eq_false_iff.mpr
              intro z
              refine okp_no (kb := none) (d := d + 1) (k := k) (by omega) (by omega) ?_ (qB_Qr.mpr z)
              have : up (τ 2) n k (d + 1) = P * τ 2 + w := by
                unfold up
                rw [show n - (d + 1) = m by omega]
                exact in_sub h1 (by omega)
              rw [this]
              intro z
              have := o1.mpr z
              rw [hv] at this
              cases this
            rw [fo2, foN_id _ (fun k h1 h2 => by rw [no k h1 h2, Bool.false_and])]
            exact B3
          | true =>
            have ok := o1.mp hv
            obtain ⟨y3, f2, F2, L2, B2⟩ := ih (d + 1) (P * τ 2 + w) y2 _ f (by omega) (by omega) (Or.inr (by omega)) B1 (L1 hv) B3 (fun hm => by
              have : d + 1 = n := by omega
              rw [decide_eq_true this] at ok
              subst this
              exact okp_yes ok)
            have Ly3 : WL τ e r g none d P y3 := by
              have upS : ∀ i, i ≤ d → up (τ 2) (d + 1) (P * τ 2 + w) i = up (τ 2) d P i := fun i hi => up_lo hw hi
              refine ⟨fun i hi => ?_, fun i hi b hb h9 => ?_, fun q hq => by cases hq⟩
              · rw [L2.1 i (by omega), dgt_lo hw hi]
              · rw [L2.2.1 i (by omega) b hb h9, upS i hi]
            refine ⟨y3, by rw [if_neg (by decide), f2, bnvS], (z1.tr F1).tr F2, Ly3, ?_⟩
            rw [fo2]
            exact B2) h ⟨CF.rf, L, by rw [Nat.zero_mul]; exact hB⟩ (by omega)
      refine ⟨y, ?_, p1, p2, ?_⟩
      · rw [if_pos (by rw [bl]; exact hb), B.2.2.1.2.1, if_pos (nI_lt (by omega) (by omega)), li_0, e1]
      · rw [pwS]
        rw [pwS] at p3
        exact p3
    · refine ⟨h, ?_, CF.rf, L, ?_⟩
      · rw [if_neg (by rw [bl]; exact hb)]
      · rw [foN_id]
        · exact hB
        · intro k h1 h2
          by_cases hS0 : 0 < τ 2
          · have : up (τ 2) n k d = P := by
              unfold up
              rw [show n - d = m + 1 by omega]
              refine in_sub h1 ?_
              rw [Nat.add_mul, Nat.one_mul]
              exact h2
            have cm := cs_mono (n := n) (k := k) (d := d) hS0 (n - d) (by omega)
            rw [show d + (n - d) = n by omega, this, up_self] at cm
            have : btr a (cs τ n k) = false := by
              cases a with
              | none => exact absurd rfl hb
              | some q =>
                have hb' : ¬ cs τ d P < q.1 := fun z => hb (decide_eq_true z)
                exact decide_eq_false (by omega)
            rw [this, Bool.and_false]
          · rw [show τ 2 = 0 by omega, Nat.zero_pow (by omega)] at h1 h2
            omega
end TL
