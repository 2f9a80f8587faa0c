section TF
variable {tp : List Nat} {σ τ : Nat → Nat} {nm nm2 : Nat → List Nat} {K : Im} {fd : List Nat} {fl : Nat} {tn : Option Tn} {h h' : Hp}
/-- a loop that may end early -/
theorem loopE {β : Type} {F : (Int32 → Hp → Option β) → Int32 → Hp → Option β} {k0 k1 : Hp → Option β} (s e : Nat) (hse : s ≤ e) (p : Nat → Prop) (P : Nat → Hp → Prop) (Q : Hp → Prop) (hx : ∀ self h, P e h → F self (nI e) h = k1 h) (hs : ∀ self i h, s ≤ i → i < e → P i h → (p i ∧ ∃ h', F self (nI i) h = self (nI (i + 1)) h' ∧ P (i + 1) h') ∨ (¬ p i ∧ ∃ h', F self (nI i) h = k0 h' ∧ Q h')) (h : Hp) (h0 : P s h) (hn : e ≤ 1000000) : ((∀ i, s ≤ i → i < e → p i) ∧ ∃ h', itr2 F N0 (nI s) h = k1 h' ∧ P e h') ∨ ((∃ i, s ≤ i ∧ i < e ∧ ¬ p i) ∧ ∃ h', itr2 F N0 (nI s) h = k0 h' ∧ Q h') := by
  refine itr2_loop (F := F) (fun r => ((∀ i, s ≤ i → i < e → p i) ∧ ∃ h', r = k1 h' ∧ P e h') ∨ ((∃ i, s ≤ i ∧ i < e ∧ ¬ p i) ∧ ∃ h', r = k0 h' ∧ Q h')) (fun d a h => ∃ i, s ≤ i ∧ i ≤ e ∧ d = e - i ∧ a = nI i ∧ P i h ∧ ∀ j, s ≤ j → j < i → p j) ?_ (e - s) (nI s) h N0 (by have := N0_big; omega) ⟨s, by omega, by omega, rfl, rfl, h0, fun j hj1 hj2 => by omega⟩
  intro d self a h ⟨i, h1, h1', h2, h3, h4, h5⟩
  subst h3
  by_cases hi : i = e
  · subst hi
    exact Or.inl (Or.inl ⟨h5, h, hx self h h4, h4⟩)
  · rcases hs self i h h1 (by omega) h4 with ⟨e0, h', e1, e2⟩ | ⟨e0, h', e1, e2⟩
    · exact Or.inr ⟨e - (i + 1), nI (i + 1), h', by omega, ⟨i + 1, by omega, by omega, rfl, rfl, e2, fun j hj1 hj2 => by
        by_cases hj3 : j = i
        · rw [hj3]; exact e0
        · exact h5 j hj1 (by omega)⟩, e1⟩
    · exact Or.inl (Or.inr ⟨⟨i, h1, by omega, e0⟩, h', e1, e2⟩)
def kbI : Option Nat → Int32
  | none => -1
  | some q => nI q
/-- the class's walk: what stands while rows are tried -/
def WB (τ : Nat → Nat) (nm : Nat → List Nat) (e r : Nat) (g : Nat → Nat) (kb : Option Nat) (ln : Int32) (h : Hp) : Prop :=
  TgRep h 7 τ nm ∧ (h.2.2 123 5 = 7 ∧ h.2.2 122 2 = 7) ∧ (h.1 123 6 = nI e ∧ h.1 123 7 = ln ∧ h.1 123 8 = kbI kb) ∧ (∀ i, i < 13 → h.1 126 i = nI (bts (fun b => decide (0 < b) && stk e r b (i + 1)) (e + 1))) ∧ ∀ b, b ≤ e → h.1 127 b = nI (g b)
/-- row P of d stands in it -/
def WL (τ : Nat → Nat) (e r : Nat) (g : Nat → Nat) (kb : Option Nat) (d P : Nat) (h : Hp) : Prop :=
  (∀ i, i < d → h.1 129 i = nI (dgt (τ 2) d P i)) ∧ (∀ i, i ≤ d → ∀ b, b ≤ e → g b ≠ 9 → h.2.1 124 (i * 6 + b) = lN (rs τ e r b i (up (τ 2) d P i))) ∧ ∀ q, kb = some q → ∀ i, i ≤ d → ∀ b, 1 ≤ b → b ≤ e → h.1 125 (i * 6 + b) = nI (bs τ e r b i (up (τ 2) d P i))
theorem WB.same {e r : Nat} {g : Nat → Nat} {kb : Option Nat} {ln : Int32} (B : WB τ nm e r g kb ln h) (s : Same [124, 125, 128, 129, 131, 132] h h') : WB τ nm e r g kb ln h' := by
  obtain ⟨a, b, c, d, f⟩ := B
  refine ⟨a.kept (fun q z1 z2 => ⟨(s q (by simp; omega)).1, (s q (by simp; omega)).2.1⟩), ?_, ?_, ?_, ?_⟩
  · rw [(s 123 (by decide)).2.2, (s 122 (by decide)).2.2]; exact b
  · rw [(s 123 (by decide)).1]; exact c
  · rw [(s 126 (by decide)).1]; exact d
  · rw [(s 127 (by decide)).1]; exact f
theorem bit1' (b : Bool) : (nI b.toNat = 1) = (b = true) := bit1 b
theorem bit0' (b : Bool) : (nI b.toNat = 0) = (b = false) := bit0 b
theorem c_strBit {e r d b : Nat} {g : Nat → Nat} {kb : Option Nat} {ln : Int32} (B : WB τ nm e r g kb ln h) (he : e ≤ 5) (hd : d < 13) (hb : b ≤ e) : jshr (h.1 126 d) (nI b) &&& 1 = nI (stk e r b (d + 1)).toNat := by
  have bl : bts (fun b => decide (0 < b) && stk e r b (d + 1)) (e + 1) < 64 := Nat.lt_of_lt_of_le (bts_lt _) (Nat.pow_le_pow_right (by decide) (show e + 1 ≤ 6 by omega))
  rw [B.2.2.2.1 d hd, li_1, bitN (by omega) (by omega), bts_bit, decide_eq_true (show b < e + 1 by omega), Bool.true_and]
  congr 2
  by_cases h0 : 0 < b
  · rw [decide_eq_true h0, Bool.true_and]
  · rw [show b = 0 by omega, stk_0]
    rfl
theorem c_beatsFit {e r d P w q : Nat} {g : Nat → Nat} {ln : Int32} {last : Bool} (B : WB τ nm e r g (some q) ln h) (H : TgOk τ nm) (he : e ≤ 5) (hd : d < 13) (hw : w < τ 2) (hq : q ≤ 1000) (hl : (nI (d + 1) = ln) = (last = true)) (hL : ∀ b, 1 ≤ b → b ≤ e → h.1 125 (d * 6 + b) = nI (bs τ e r b d P)) : ∃ h', Same [125] h h' ∧ h'.2 = h.2 ∧ (∀ i, i < d * 6 + 6 → h'.1 125 i = h.1 125 i) ∧ (((∀ b, 1 ≤ b → b ≤ e → bs τ e r b (d + 1) (P * τ 2 + w) ≤ q ∧ (last = true → bs τ e r b (d + 1) (P * τ 2 + w) = q)) ∧ f_X11_beatsFit (nI d) (nI w) h = some (1, h') ∧ ∀ b, 1 ≤ b → b ≤ e → h'.1 125 (d * 6 + 6 + b) = nI (bs τ e r b (d + 1) (P * τ 2 + w))) ∨ ((¬ ∀ b, 1 ≤ b → b ≤ e → bs τ e r b (d + 1) (P * τ 2 + w) ≤ q ∧ (last = true → bs τ e r b (d + 1) (P * τ 2 + w) = q)) ∧ f_X11_beatsFit (nI d) (nI w) h = some (0, h'))) := by
  have h8 := H.1.2.2.1
  have e6 : nI d * 6 = nI (d * 6) := by rw [li_6, pk_mul]
  have fe : f_X11_beatsFit (nI d) (nI w) h = itr2 (F_X11_beatsFit_25 (nI d) (nI w) (nI last.toNat) (nI (d * 6)) (fun h17 => some (0, h17)) (fun h18 => some (1, h18))) N0 (nI 1) h := by
    unfold f_X11_beatsFit B_X11_beatsFit_15
    rw [B.2.2.1.2.1, nI_1, lt_s0, lt_s0, e6]
    cases hlast : last
    · rw [if_neg (by rw [hl, hlast]; decide)]
      rfl
    · rw [if_pos (by rw [hl, hlast])]
      rfl
  have L := loopE (F := F_X11_beatsFit_25 (nI d) (nI w) (nI last.toNat) (nI (d * 6)) (fun h17 => some (0, h17)) (fun h18 => some (1, h18))) (k0 := fun h17 => some (0, h17)) (k1 := fun h18 => some (1, h18)) 1 (e + 1) (by omega) (fun b => bs τ e r b (d + 1) (P * τ 2 + w) ≤ q ∧ (last = true → bs τ e r b (d + 1) (P * τ 2 + w) = q)) (fun b y => Same [125] h y ∧ y.2 = h.2 ∧ (∀ i, i < d * 6 + 6 → y.1 125 i = h.1 125 i) ∧ ∀ b', 1 ≤ b' → b' < b → y.1 125 (d * 6 + 6 + b') = nI (bs τ e r b' (d + 1) (P * τ 2 + w))) (fun y => Same [125] h y ∧ y.2 = h.2 ∧ (∀ i, i < d * 6 + 6 → y.1 125 i = h.1 125 i)) (fun self y ⟨z1, _⟩ => by
      unfold F_X11_beatsFit_25
      rw [(z1 123 (by decide)).1, B.2.2.1.1, if_pos (nI_lt (by omega) (by omega))]) (fun self b y hb1 hb2 ⟨z1, z2, z3, z4⟩ => by
      have By : WB τ nm e r g (some q) ln y := B.same (z1.mono (fun q hq => by simp only [List.mem_cons, List.not_mem_nil, or_false] at hq ⊢; omega))
      have sb := c_strBit By he hd (show b ≤ e by omega)
      have y5 : y.1 125 (d * 6 + b) = nI (bs τ e r b d P) := by rw [z3 _ (by omega)]; exact hL b hb1 (by omega)
      have bl := bs_le H e r b d P (Or.inr (by omega))
      have bw : τ (40 + w) ≤ 9 := (H.2.2.2.1 w hw).1
      obtain ⟨v, ev⟩ : ∃ v, v = bs τ e r b (d + 1) (P * τ 2 + w) := ⟨_, rfl⟩
      have v' := ev
      rw [bs_s hw] at v'
      have vl : v ≤ 1000 := by
        rw [v']
        by_cases h1 : stk e r b (d + 1) = true
        · rw [if_pos h1]; omega
        · rw [if_neg h1]; omega
      obtain ⟨y', ey'⟩ : ∃ z, z = sI y 125 (d * 6 + 6 + b) (nI v) := ⟨_, rfl⟩
      have s' : Same [125] h y' ∧ y'.2 = h.2 ∧ (∀ i, i < d * 6 + 6 → y'.1 125 i = h.1 125 i) := by
        rw [ey']
        exact ⟨z1.tr (Same.ofI (by decide)), z2, fun i hi => by rw [sI_nk1 (by omega)]; exact z3 i hi⟩
      have b83 : ∀ t : Int32, nI (bs τ e r b d P) + t = nI v → B_X11_beatsFit_83 (nI d) (nI w) (nI last.toNat) (nI (d * 6)) (fun h17 => some (0, h17)) (fun h18 => some (1, h18)) self (nI b) t (nI (bs τ e r b d P)) y = (if v ≤ q ∧ (last = true → v = q) then self (nI (b + 1)) y' else some (0, y')) := fun t ht => by
        unfold B_X11_beatsFit_83
        rw [lt_s0, ht, li_6, nI_add, nI_add, if_pos (inb_nI (by omega) (by decide)), lt_s0, nI_clamp (by omega), ← ey', show y'.1 123 8 = nI q by rw [(s'.1 123 (by decide)).1]; exact B.2.2.1.2.2, nI_1]
        by_cases h1 : v ≤ q
        · rw [if_neg (nI_nlt h1 (by omega))]
          cases hlast : last
          · rw [if_pos (by decide), if_pos ⟨h1, fun z => by cases z⟩]
          · rw [if_neg (by decide)]
            by_cases h2 : v = q
            · rw [if_pos (by rw [h2]), if_pos ⟨h1, fun _ => h2⟩]
            · rw [if_neg (fun z => h2 ((nI_eq (by omega) (by omega)).mp z)), if_neg (fun z => h2 (z.2 rfl))]
        · rw [if_pos (nI_lt (by omega) (by omega)), if_neg (fun z => h1 z.1)]
      have fs : F_X11_beatsFit_25 (nI d) (nI w) (nI last.toNat) (nI (d * 6)) (fun h17 => some (0, h17)) (fun h18 => some (1, h18)) self (nI b) y = (if v ≤ q ∧ (last = true → v = q) then self (nI (b + 1)) y' else some (0, y')) := by
        unfold F_X11_beatsFit_25 B_X11_beatsFit_53
        rw [(z1 123 (by decide)).1, B.2.2.1.1, if_neg (nI_nlt (by omega) (by omega)), if_pos (inb_nI (by omega) (by decide)), nI_clamp (by omega), sb, nI_add, if_pos (inb_nI (by omega) (by decide))]
        simp (disch := omega) only [clp]
        rw [y5]
        cases hst : stk e r b (d + 1)
        · rw [hst] at v'
          have y12 : y.1 (7 + 5) w = nI (τ (40 + w)) := (By.1.2.2.2.2.1 w hw).1
          rw [if_pos (by decide), if_pos (by decide), lt_s0, By.2.1.1, if_pos (by decide), if_pos (inb_nI (by omega) (by decide)), y12, b83 _ (by rw [nI_add, v']; rfl)]
        · rw [hst] at v'
          rw [if_neg (by decide), if_pos (inb_nI (by omega) (by decide)), if_neg (by decide), b83 _ (by rw [v', li_0, nI_add]; rfl)]
      rw [fs, ← ev]
      by_cases hp : v ≤ q ∧ (last = true → v = q)
      · refine Or.inl ⟨hp, y', by rw [if_pos hp], s'.1, s'.2.1, s'.2.2, fun b' h1 h2 => ?_⟩
        by_cases h3 : b' = b
        · rw [h3, ey', sI_s, ev]
        · rw [ey', sI_nk1 (by omega)]
          exact z4 b' h1 (by omega)
      · exact Or.inr ⟨hp, y', by rw [if_neg hp], s'⟩) h ⟨Same.rf, rfl, fun _ _ => rfl, fun b' h1 h2 => by omega⟩ (by omega)
  rcases L with ⟨a1, y, a2, a3, a4, a5, a6⟩ | ⟨⟨i, a1, a1', a1''⟩, y, a2, a3, a4, a5⟩
  · exact ⟨y, a3, a4, a5, Or.inl ⟨fun b h1 h2 => a1 b h1 (by omega), by rw [fe, a2], fun b h1 h2 => a6 b h1 (by omega)⟩⟩
  · exact ⟨y, a3, a4, a5, Or.inr ⟨fun z => a1'' (z i a1 (by omega)), by rw [fe, a2]⟩⟩
theorem c_meets {X g : Nat} (T : TgRep h 7 τ nm) (H : TgOk τ nm) (h5 : h.2.2 123 5 = 7) (hX : X ≤ 1099511627776) (hg : g ≤ 10) (hg9 : g ≠ 9) : f_X11_meets (lN X) (nI g) h = some (nI (gokB g (mnt τ X)).toNat, h) := by
  have ml := mnt_lt (σ := τ) X
  unfold f_X11_meets
  rw [lt_s0, h5, if_pos (by decide), c_meant T H hX, bndS]
  by_cases h8 : g = 8
  · subst h8
    have e : gokB 8 (mnt τ X) = decide (mnt τ X = 0) := rfl
    rw [e, if_pos (show nI 8 = 8 from rfl)]
    by_cases h1 : mnt τ X = 0
    · rw [h1, if_pos (show nI 0 = 0 from rfl)]; rfl
    · rw [if_neg (show ¬ nI (mnt τ X) = 0 from fun z => h1 ((nI_eq (b := 0) (by omega) (by omega)).mp z)), decide_eq_false h1]; rfl
  · rw [if_neg (show ¬ nI g = 8 from fun z => h8 ((nI_eq (b := 8) (by omega) (by omega)).mp z))]
    by_cases h10 : g = 10
    · subst h10
      have pl := pop_le _ ml
      have e : gokB 10 (mnt τ X) = decide (pop (mnt τ X) = 1) := rfl
      rw [e, if_pos (show nI 10 = 10 from rfl), c_bc ml, bndS]
      by_cases h1 : pop (mnt τ X) = 1
      · rw [h1, if_pos (show nI 1 = 1 from rfl)]; rfl
      · rw [if_neg (show ¬ nI (pop (mnt τ X)) = 1 from fun z => h1 ((nI_eq (b := 1) (by omega) (by omega)).mp z)), decide_eq_false h1]; rfl
    · have p8 : 2 ^ g ≤ 2 ^ 7 := Nat.pow_le_pow_right (by decide) (by omega)
      have e : gokB g (mnt τ X) = decide (mnt τ X = 2 ^ g) := if_pos (by omega)
      rw [e, if_neg (show ¬ nI g = 10 from fun z => h10 ((nI_eq (b := 10) (by omega) (by omega)).mp z)), li_1, shl1 (by omega)]
      by_cases h1 : mnt τ X = 2 ^ g
      · rw [if_pos (by rw [h1]), decide_eq_true h1]; rfl
      · rw [if_neg (fun z => h1 ((nI_eq (by omega) (by omega)).mp z)), decide_eq_false h1]; rfl
/-- SAYING w comes at place d -/
def okp (τ : Nat → Nat) (e r : Nat) (g : Nat → Nat) (kb : Option Nat) (last : Bool) (d1 P1 : Nat) : Prop := (∀ q, kb = some q → ∀ b, 1 ≤ b → b ≤ e → bs τ e r b d1 P1 ≤ q ∧ (last = true → bs τ e r b d1 P1 = q)) ∧ ∀ b, b ≤ e → g b ≠ 9 → (rs τ e r b d1 P1 ≠ 0 ∨ g b = 8) ∧ (last = true → gok (g b) (mnt τ (rs τ e r b d1 P1)))
theorem c_put55 {e r d P w : Nat} {g : Nat → Nat} {kb : Option Nat} {ln : Int32} {last : Bool} (B : WB τ nm e r g kb ln h) (H : TgOk τ nm) (he : e ≤ 5) (hd : d < 13) (hw : w < τ 2) (hg : ∀ b, b ≤ e → g b ≤ 10) (hL : ∀ b, b ≤ e → g b ≠ 9 → h.2.1 124 (d * 6 + b) = lN (rs τ e r b d P)) (hl : (nI (d + 1) = ln) = (last = true)) : ∃ h', Same [124] h h' ∧ h'.1 = h.1 ∧ (∀ i, i < d * 6 + 6 → h'.2.1 124 i = h.2.1 124 i) ∧ (((∀ b, b ≤ e → g b ≠ 9 → (rs τ e r b (d + 1) (P * τ 2 + w) ≠ 0 ∨ g b = 8) ∧ (last = true → gok (g b) (mnt τ (rs τ e r b (d + 1) (P * τ 2 + w))))) ∧ B_X11_put_40 (nI d) (nI w) h = some (1, h') ∧ ∀ b, b ≤ e → g b ≠ 9 → h'.2.1 124 (d * 6 + 6 + b) = lN (rs τ e r b (d + 1) (P * τ 2 + w))) ∨ ((¬ ∀ b, b ≤ e → g b ≠ 9 → (rs τ e r b (d + 1) (P * τ 2 + w) ≠ 0 ∨ g b = 8) ∧ (last = true → gok (g b) (mnt τ (rs τ e r b (d + 1) (P * τ 2 + w))))) ∧ B_X11_put_40 (nI d) (nI w) h = some (0, h'))) := by
  have h8 := H.1.2.2.1
  have e6 : nI d * 6 = nI (d * 6) := by rw [li_6, pk_mul]
  have fe : B_X11_put_40 (nI d) (nI w) h = itr2 (F_X11_put_65 (nI d) (nI w) (nI last.toNat) (nI (d * 6)) (fun h30 => some (0, h30)) (fun h31 => some (1, h31))) N0 (nI 0) h := by
    unfold B_X11_put_40 B_X11_put_55
    rw [B.2.2.1.2.1, nI_1, lt_s0, lt_s0, e6]
    cases hlast : last
    · rw [if_neg (by rw [hl, hlast]; decide)]
      rfl
    · rw [if_pos (by rw [hl, hlast])]
      rfl
  have L := loopE (F := F_X11_put_65 (nI d) (nI w) (nI last.toNat) (nI (d * 6)) (fun h30 => some (0, h30)) (fun h31 => some (1, h31))) (k0 := fun h30 => some (0, h30)) (k1 := fun h31 => some (1, h31)) 0 (e + 1) (by omega) (fun b => g b ≠ 9 → (rs τ e r b (d + 1) (P * τ 2 + w) ≠ 0 ∨ g b = 8) ∧ (last = true → gok (g b) (mnt τ (rs τ e r b (d + 1) (P * τ 2 + w))))) (fun b y => Same [124] h y ∧ y.1 = h.1 ∧ (∀ i, i < d * 6 + 6 → y.2.1 124 i = h.2.1 124 i) ∧ ∀ b', b' < b → g b' ≠ 9 → y.2.1 124 (d * 6 + 6 + b') = lN (rs τ e r b' (d + 1) (P * τ 2 + w))) (fun y => Same [124] h y ∧ y.1 = h.1 ∧ (∀ i, i < d * 6 + 6 → y.2.1 124 i = h.2.1 124 i)) (fun self y ⟨_, z2, _⟩ => by
      unfold F_X11_put_65
      rw [z2, B.2.2.1.1, if_pos (nI_lt (by omega) (by omega))]) (fun self b y _ hb2 ⟨z1, z2, z3, z4⟩ => by
      have By : WB τ nm e r g kb ln y := B.same (z1.mono (fun q hq => by simp only [List.mem_cons, List.not_mem_nil, or_false] at hq ⊢; omega))
      have gb := By.2.2.2.2 b (by omega)
      have g10 := hg b (by omega)
      by_cases h9 : g b = 9
      · refine Or.inl ⟨fun z => absurd h9 z, y, ?_, z1, z2, z3, fun b' h1 h2 => ?_⟩
        · unfold F_X11_put_65
          rw [By.2.2.1.1, if_neg (nI_nlt (by omega) (by omega)), if_pos (inb_nI (by omega) (by decide)), nI_clamp (by omega), gb, h9, if_pos (by decide), nI_1]
        · exact z4 b' (by rcases (show b' < b ∨ b' = b by omega) with z | z; exact z; rw [z] at h2; exact absurd h9 h2) h2
      · have sb := c_strBit By he hd (show b ≤ e by omega)
        have y4 : y.2.1 124 (d * 6 + b) = lN (rs τ e r b d P) := by rw [z3 _ (by omega)]; exact hL b (by omega) h9
        have rl := rs_le' H e r b d P (Or.inr (by omega))
        obtain ⟨X, eX⟩ : ∃ X, X = rs τ e r b (d + 1) (P * τ 2 + w) := ⟨_, rfl⟩
        have Xl : X ≤ 1099511627776 := by rw [eX]; exact rs_le' H _ _ _ _ _ (Or.inr (by omega))
        have X' := eX
        rw [rs_s hw] at X'
        obtain ⟨y', ey'⟩ : ∃ z, z = sL y 124 (d * 6 + 6 + b) (lN X) := ⟨_, rfl⟩
        have s' : Same [124] h y' ∧ y'.1 = h.1 ∧ (∀ i, i < d * 6 + 6 → y'.2.1 124 i = h.2.1 124 i) := by
          rw [ey']
          exact ⟨z1.tr (Same.ofL (by decide)), z2, fun i hi => by rw [sL_nk1 (by omega)]; exact z3 i hi⟩
        have By' : WB τ nm e r g kb ln y' := B.same (s'.1.mono (fun q hq => by simp only [List.mem_cons, List.not_mem_nil, or_false] at hq ⊢; omega))
        have b179 : ∀ k199 k207, B_X11_put_179 (nI d) (nI w) (nI last.toNat) (nI (d * 6)) k199 k207 self (nI b) (lN X) y' = if (last = true → gokB (g b) (mnt τ X) = true) then self (nI (b + 1)) y' else k199 y' := fun k199 k207 => by
          unfold B_X11_put_179
          cases hlast : last
          · rw [if_pos (by decide), if_pos (show false = true → _ from fun z => by cases z), nI_1]
          · rw [if_neg (by decide), if_pos (inb_nI (by omega) (by decide)), nI_clamp (by omega), By'.2.2.2.2 b (by omega), c_meets By'.1 H By'.2.1.1 Xl g10 h9, bndS, nI_1]
            cases gokB (g b) (mnt τ X)
            · rw [if_pos (by decide), if_neg (fun z => by cases z rfl)]
            · rw [if_neg (by decide), if_pos (fun _ => rfl)]
        have b143 : B_X11_put_143 (nI d) (nI w) (nI last.toNat) (nI (d * 6)) (fun h30 => some (0, h30)) (fun h31 => some (1, h31)) self (nI b) (lN X) y = if (X ≠ 0 ∨ g b = 8) ∧ (last = true → gokB (g b) (mnt τ X) = true) then self (nI (b + 1)) y' else some (0, y') := by
          unfold B_X11_put_143
          rw [li_6, nI_add, nI_add, if_pos (inb_nI (by omega) (by decide)), lt_s0, nI_clamp (by omega), ← ey', b179]
          by_cases h1 : X = 0
          · rw [if_pos (by rw [h1]; decide), if_pos (inb_nI (by omega) (by decide)), nI_clamp (by omega), By'.2.2.2.2 b (by omega)]
            by_cases h2 : g b = 8
            · rw [if_pos (show nI (g b) = 8 by rw [h2]; rfl)]
              by_cases h3 : last = true → gokB (g b) (mnt τ X) = true
              · rw [if_pos h3, if_pos ⟨Or.inr h2, h3⟩]
              · rw [if_neg h3, if_neg (fun z => h3 z.2)]
            · rw [if_neg (show ¬ nI (g b) = 8 from fun z => h2 ((nI_eq (b := 8) (by omega) (by omega)).mp z)), if_neg (fun z => by rcases z.1 with z | z; exact z h1; exact h2 z)]
          · have n0 : ¬ lg_cmp (lN X) 0 = 0 := by
              rw [li_0, lcE]
              exact fun z => h1 ((pk_lEQ (b := 0) (by omega) (by omega)).mp z)
            rw [if_neg n0]
            by_cases h3 : last = true → gokB (g b) (mnt τ X) = true
            · rw [if_pos h3, if_pos ⟨Or.inl h1, h3⟩]
            · rw [if_neg h3, if_neg (fun z => h3 z.2)]
        have fs : F_X11_put_65 (nI d) (nI w) (nI last.toNat) (nI (d * 6)) (fun h30 => some (0, h30)) (fun h31 => some (1, h31)) self (nI b) y = if (X ≠ 0 ∨ g b = 8) ∧ (last = true → gokB (g b) (mnt τ X) = true) then self (nI (b + 1)) y' else some (0, y') := by
          unfold F_X11_put_65 B_X11_put_105
          rw [By.2.2.1.1, if_neg (nI_nlt (by omega) (by omega)), if_pos (inb_nI (by omega) (by decide)), nI_clamp (by omega), gb, if_neg (show ¬ nI (g b) = 9 from fun z => h9 ((nI_eq (b := 9) (by omega) (by omega)).mp z)), if_pos (inb_nI (by omega) (by decide)), nI_clamp (by omega), sb, nI_add, nI_clamp (by omega), y4, lt_s0, By.2.1.1]
          cases hst : stk e r b (d + 1)
          · rw [hst] at X'
            rw [if_pos (by decide), if_pos (by decide), if_pos (by decide), if_pos (inb_nI (by omega) (by decide)), c_stepped By.1 H rl hw, bndS]
            rw [if_neg (by decide)] at X'
            rw [← X', b143]
          · rw [hst, if_pos rfl] at X'
            rw [if_neg (by decide), if_neg (by decide), if_pos (inb_nI (by omega) (by decide)), ← X', b143]
        rw [fs, ← eX]
        by_cases hp : (X ≠ 0 ∨ g b = 8) ∧ (last = true → gokB (g b) (mnt τ X) = true)
        · refine Or.inl ⟨fun _ => hp, y', by rw [if_pos hp], s'.1, s'.2.1, s'.2.2, fun b' h1 h2 => ?_⟩
          by_cases h3 : b' = b
          · rw [h3, ey', sL_s, eX]
          · rw [ey', sL_nk1 (by omega)]
            exact z4 b' (by omega) h2
        · exact Or.inr ⟨fun z => hp (z h9), y', by rw [if_neg hp], s'⟩) h ⟨Same.rf, rfl, fun _ _ => rfl, fun b' h1 => by omega⟩ (by omega)
  rcases L with ⟨a1, y, a2, a3, a4, a5, a6⟩ | ⟨⟨i, a1, a1', a1''⟩, y, a2, a3, a4, a5⟩
  · exact ⟨y, a3, a4, a5, Or.inl ⟨fun b h2 => a1 b (by omega) (by omega), by rw [fe, a2], fun b h2 => a6 b (by omega)⟩⟩
  · exact ⟨y, a3, a4, a5, Or.inr ⟨fun z => a1'' (z i (by omega)), by rw [fe, a2]⟩⟩
theorem c_put {e r d P w : Nat} {g : Nat → Nat} {kb : Option Nat} {ln : Int32} {last : Bool} (B : WB τ nm e r g kb ln h) (L : WL τ e r g kb d P h) (H : TgOk τ nm) (he : e ≤ 5) (hd : d < 13) (hw : w < τ 2) (hg : ∀ b, b ≤ e → g b ≤ 10) (hk : ∀ q, kb = some q → q ≤ 1000) (hl : (nI (d + 1) = ln) = (last = true)) : ∃ v h', f_X11_put (nI d) (nI w) h = some (nI v.toNat, h') ∧ Same [124, 125, 129] h h' ∧ WB τ nm e r g kb ln h' ∧ WL τ e r g kb d P h' ∧ (v = true ↔ okp τ e r g kb last (d + 1) (P * τ 2 + w)) ∧ (v = true → WL τ e r g kb (d + 1) (P * τ 2 + w) h') := by
  obtain ⟨L1, L2, L3⟩ := L
  obtain ⟨h4, eh4⟩ : ∃ z, z = sI h 129 d (nI w) := ⟨_, rfl⟩
  have s4 : Same [129] h h4 := by rw [eh4]; exact Same.ofI (by decide)
  have l4 : h4.2 = h.2 := by rw [eh4]; rfl
  have B4 : WB τ nm e r g kb ln h4 := B.same (s4.mono (fun q hq => by simp only [List.mem_cons, List.not_mem_nil, or_false] at hq ⊢; omega))
  have r4 : ∀ i, i < d → h4.1 129 i = nI (dgt (τ 2) d P i) := fun i hi => by rw [eh4, sI_nk1 (by omega)]; exact L1 i hi
  have r4' : h4.1 129 d = nI w := by rw [eh4, sI_s]
  have upS : ∀ i, i ≤ d → up (τ 2) (d + 1) (P * τ 2 + w) i = up (τ 2) d P i := fun i hi => up_lo hw hi
  have up0 : up (τ 2) d P d = P := up_self _ _ _
  have up1 : up (τ 2) (d + 1) (P * τ 2 + w) (d + 1) = P * τ 2 + w := up_self _ _ _
  -- what stands behind a heap that keeps the lower levels
  have fin : ∀ y : Hp, y.1 129 = h4.1 129 → (∀ i, i < d * 6 + 6 → y.2.1 124 i = h.2.1 124 i) → (∀ i, i < d * 6 + 6 → y.1 125 i = h.1 125 i) → WL τ e r g kb d P y := fun y y1 y2 y3 =>
    ⟨fun i hi => by rw [y1]; exact r4 i hi, fun i hi b hb h9 => by rw [y2 _ (by omega)]; exact L2 i hi b hb h9, fun q hq i hi b h1 h2 => by rw [y3 _ (by omega)]; exact L3 q hq i hi b h1 h2⟩
  have fin2 : ∀ y : Hp, y.1 129 = h4.1 129 → (∀ i, i < d * 6 + 6 → y.2.1 124 i = h.2.1 124 i) → (∀ i, i < d * 6 + 6 → y.1 125 i = h.1 125 i) → (∀ b, b ≤ e → g b ≠ 9 → y.2.1 124 (d * 6 + 6 + b) = lN (rs τ e r b (d + 1) (P * τ 2 + w))) → (∀ q, kb = some q → ∀ b, 1 ≤ b → b ≤ e → y.1 125 (d * 6 + 6 + b) = nI (bs τ e r b (d + 1) (P * τ 2 + w))) → WL τ e r g kb (d + 1) (P * τ 2 + w) y := fun y y1 y2 y3 y4 y5 => by
    refine ⟨fun i hi => ?_, fun i hi b hb h9 => ?_, fun q hq i hi b h1 h2 => ?_⟩
    · rw [y1]
      by_cases h1 : i = d
      · rw [h1, r4', dgt_last hw]
      · rw [dgt_lo hw (by omega)]
        exact r4 i (by omega)
    · by_cases h1 : i = d + 1
      · rw [h1, up1, show (d + 1) * 6 + b = d * 6 + 6 + b by omega]
        exact y4 b hb h9
      · rw [upS i (by omega), y2 _ (by omega)]
        exact L2 i (by omega) b hb h9
    · by_cases h3 : i = d + 1
      · rw [h3, up1, show (d + 1) * 6 + b = d * 6 + 6 + b by omega]
        exact y5 q hq b h1 h2
      · rw [upS i (by omega), y3 _ (by omega)]
        exact L3 q hq i (by omega) b h1 h2
  have go : ∀ y : Hp, Same [124, 125, 129] h y → y.1 129 = h4.1 129 → (∀ i, i < d * 6 + 6 → y.1 125 i = h.1 125 i) → y.2 = h.2 → ((∀ q, kb = some q → ∀ b, 1 ≤ b → b ≤ e → bs τ e r b (d + 1) (P * τ 2 + w) ≤ q ∧ (last = true → bs τ e r b (d + 1) (P * τ 2 + w) = q)) ∧ ∀ q, kb = some q → ∀ b, 1 ≤ b → b ≤ e → y.1 125 (d * 6 + 6 + b) = nI (bs τ e r b (d + 1) (P * τ 2 + w))) → f_X11_put (nI d) (nI w) h = B_X11_put_40 (nI d) (nI w) y → ∃ v h', f_X11_put (nI d) (nI w) h = some (nI v.toNat, h') ∧ Same [124, 125, 129] h h' ∧ WB τ nm e r g kb ln h' ∧ WL τ e r g kb d P h' ∧ (v = true ↔ okp τ e r g kb last (d + 1) (P * τ 2 + w)) ∧ (v = true → WL τ e r g kb (d + 1) (P * τ 2 + w) h') := fun y s y1 y2 y3 ⟨y4, y5⟩ ef => by
    have By := B.same (s.mono (fun q hq => by simp only [List.mem_cons, List.not_mem_nil, or_false] at hq ⊢; omega))
    obtain ⟨z, z1, z2, z3, z4⟩ := c_put55 (h := y) (P := P) (w := w) By H he hd hw hg (fun b hb h9 => by rw [y3, ← up0]; rw [up0]; have := L2 d (Nat.le_refl _) b hb h9; rw [up0] at this; exact this) hl
    have sz : Same [124, 125, 129] h z := s.tr (z1.mono (fun q hq => by simp only [List.mem_cons, List.not_mem_nil, or_false] at hq ⊢; omega))
    have Bz := B.same (sz.mono (fun q hq => by simp only [List.mem_cons, List.not_mem_nil, or_false] at hq ⊢; omega))
    have w1 : z.1 129 = h4.1 129 := by rw [z2]; exact y1
    have w2 : ∀ i, i < d * 6 + 6 → z.2.1 124 i = h.2.1 124 i := fun i hi => by rw [z3 i hi, y3]
    have w3 : ∀ i, i < d * 6 + 6 → z.1 125 i = h.1 125 i := fun i hi => by rw [z2]; exact y2 i hi
    rcases z4 with ⟨q1, q2, q3⟩ | ⟨q1, q2⟩
    · exact ⟨true, z, by rw [ef, q2]; rfl, sz, Bz, fin z w1 w2 w3, ⟨fun _ => ⟨y4, q1⟩, fun _ => rfl⟩, fun _ => fin2 z w1 w2 w3 q3 (fun q hq b h1 h2 => by rw [z2]; exact y5 q hq b h1 h2)⟩
    · exact ⟨false, z, by rw [ef, q2]; rfl, sz, Bz, fin z w1 w2 w3, ⟨fun z => (by cases z), fun z => absurd z.2 q1⟩, fun z => by cases z⟩
  have p0 : f_X11_put (nI d) (nI w) h = (if kbI kb < 0 then B_X11_put_40 (nI d) (nI w) h4 else bnd (f_X11_beatsFit (nI d) (nI w) h4) fun v33 h32 => (if v33 = 0 then some (0, h32) else B_X11_put_40 (nI d) (nI w) h32)) := by
    unfold f_X11_put
    rw [if_neg (nI_pos (by omega)), if_pos (show nI d < (13 : Int32) from nI_lt (b := 13) hd (by decide)), if_pos (inb_nI hd (by decide)), lt_s0, nI_clamp (by omega), ← eh4, B4.2.2.1.2.2]
  cases hkb : kb with
  | none =>
    rw [← hkb]
    refine go h4 (s4.mono (fun q hq => by simp only [List.mem_cons, List.not_mem_nil, or_false] at hq ⊢; omega)) rfl (fun i _ => by rw [eh4, sI_ne1 (by decide)]) l4 ⟨fun q hq => (by rw [hkb] at hq; cases hq), fun q hq => (by rw [hkb] at hq; cases hq)⟩ ?_
    rw [p0, hkb]
    exact if_pos (by decide)
  | some q =>
    rw [← hkb]
    have q1000 := hk q hkb
    have B4' := B4
    rw [hkb] at B4'
    have e0 : ¬ kbI kb < 0 := by rw [hkb]; exact nI_pos (by omega)
    rw [if_neg e0] at p0
    obtain ⟨y, y1, y2, y3, y4⟩ := c_beatsFit (h := h4) (P := P) (w := w) (last := last) B4' H he hd hw q1000 hl (fun b h1 h2 => by
      have := L3 q hkb d (Nat.le_refl _) b h1 h2
      rw [up0] at this
      rw [eh4, sI_ne1 (by decide)]
      exact this)
    have sy : Same [124, 125, 129] h y := (s4.mono (fun q hq => by simp only [List.mem_cons, List.not_mem_nil, or_false] at hq ⊢; omega)).tr (y1.mono (fun q hq => by simp only [List.mem_cons, List.not_mem_nil, or_false] at hq ⊢; omega))
    have w1 : y.1 129 = h4.1 129 := (y1 129 (by decide)).1
    have w3 : ∀ i, i < d * 6 + 6 → y.1 125 i = h.1 125 i := fun i hi => by rw [y3 i hi, eh4, sI_ne1 (by decide)]
    rcases y4 with ⟨q1, q2, q3⟩ | ⟨q1, q2⟩
    · refine go y sy w1 w3 (by rw [y2, l4]) ⟨fun q' hq' => (by rw [hkb] at hq'; cases hq'; exact q1), fun q' hq' => (by rw [hkb] at hq'; cases hq'; exact q3)⟩ ?_
      rw [p0, q2, bndS, if_neg (by decide)]
    · refine ⟨false, y, by rw [p0, q2, bndS, if_pos (by decide)]; rfl, sy, B.same (sy.mono (fun q hq => by simp only [List.mem_cons, List.not_mem_nil, or_false] at hq ⊢; omega)), fin y w1 (fun i hi => by rw [y2, l4]) w3, ⟨fun z => (by cases z), fun z => absurd (z.1 q hkb) q1⟩, fun z => by cases z⟩
end TF
