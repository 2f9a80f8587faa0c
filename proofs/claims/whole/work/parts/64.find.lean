section TI
variable {tp : List Nat} {σ τ : Nat → Nat} {nm nm2 : Nat → List Nat} {K : Im} {fd : List Nat} {fl : Nat} {tn : Option Tn} {h h' : Hp}
theorem m_meansNow {e r n k b : Nat} (R : RB τ e r h) (F : RF τ e r n k h) (H : TgOk τ nm) (he : e ≤ 5) (hn : n ≤ 13) (hb : b ≤ e) (hS : n = 0 ∨ 0 < τ 2) : f_X13_meansNow (nI b) h = some (nI (mnt τ (rs τ e r b n k)), h) := by
  have c := (F.1.2 n (Nat.le_refl _) b hb).1
  rw [up_self] at c
  unfold f_X13_meansNow
  rw [F.2.1, li_6, pk_mul, nI_add, if_pos (inb_nI (by omega) (by decide)), nI_clamp (by omega), c, m_ends (fun k hk => R.1 k (by omega) (by omega)) H (rs_le' H e r b n k hS), bndS]
theorem gok_lt {g v : Nat} (h8 : g < 8) : gokB g v = decide (v = 2 ^ g) := if_pos h8
theorem m_meetsGoals {e r n k : Nat} {g : Nat → Nat} (R : RB τ e r h) (F : RF τ e r n k h) (H : TgOk τ nm) (he : e ≤ 5) (hn : n ≤ 13) (hS : n = 0 ∨ 0 < τ 2) (hg : ∀ b, b ≤ e → g b ≤ 9) (h2 : ∀ b, b ≤ e → h.1 172 b = nI (g b)) : f_X13_meetsGoals h = some (nI (allP (fun b => gokB (g b) (mnt τ (rs τ e r b n k))) 0 (e + 1)).toNat, h) := by
  unfold f_X13_meetsGoals
  rw [li_0]
  have al := allLoop (h := h) (F := F_X13_meetsGoals_2 (fun h11 => some (nI 0, h11)) (fun h12 => some (nI 0, h12)) (fun h13 => some (1, h13))) (k0 := some (nI 0, h)) (k1 := some (1, h)) (fun b => gokB (g b) (mnt τ (rs τ e r b n k))) 0 (e + 1) (fun self => by
      unfold F_X13_meetsGoals_2
      rw [R.2.2.1, if_pos (nI_lt (by omega) (by omega))]) (fun self b hb => by
      rw [Nat.zero_add]
      have gb := hg b (by omega)
      have cb := h2 b (by omega)
      have ml := mnt_lt (σ := τ) (rs τ e r b n k)
      unfold F_X13_meetsGoals_2
      rw [R.2.2.1, if_neg (nI_nlt (by omega) (by omega)), m_meansNow R F H he hn (by omega) hS, bndS, if_pos (inb_nI (by omega) (by decide)), if_pos (inb_nI (by omega) (by decide)), if_pos (inb_nI (by omega) (by decide)), nI_clamp (by omega), cb, nI_1]
      by_cases h8 : g b < 8
      · have p8 : 2 ^ g b ≤ 2 ^ 7 := Nat.pow_le_pow_right (by decide) (by omega)
        rw [if_neg (show ¬ (8 : Int32) ≤ nI (g b) from nI_ge (b := 8) h8 (by omega)), li_1, shl1 (by omega), gok_lt h8]
        by_cases h1 : mnt τ (rs τ e r b n k) = 2 ^ g b
        · rw [if_pos (by rw [h1]), if_pos (decide_eq_true h1)]
        · rw [if_neg (fun z => h1 ((nI_eq (by omega) (by omega)).mp z)), if_neg (fun z => h1 (of_decide_eq_true z))]
      · rw [if_pos (show (8 : Int32) ≤ nI (g b) from nI_le (a := 8) (by omega) (by omega))]
        by_cases h9 : g b = 8
        · rw [h9, if_pos (show nI 8 = 8 from rfl), show gokB 8 (mnt τ (rs τ e r b n k)) = decide (mnt τ (rs τ e r b n k) = 0) from rfl]
          by_cases h1 : mnt τ (rs τ e r b n k) = 0
          · rw [h1, if_pos (by decide), if_pos (by decide)]
          · rw [if_neg (show ¬ nI (mnt τ (rs τ e r b n k)) = 0 from fun z => h1 ((nI_eq (b := 0) (by omega) (by omega)).mp z)), if_neg (fun z => h1 (of_decide_eq_true z))]
        · rw [if_neg (show ¬ nI (g b) = 8 from fun z => h9 ((nI_eq (b := 8) (by omega) (by omega)).mp z)), show g b = 9 by omega, if_pos (show gokB 9 (mnt τ (rs τ e r b n k)) = true from rfl)]) (by omega)
  rw [al]
  cases allP (fun b => gokB (g b) (mnt τ (rs τ e r b n k))) 0 (e + 1)
  · rfl
  · rfl
theorem m_hasBeats {e r n k q : Nat} (R : RB τ e r h) (F : RF τ e r n k h) (H : TgOk τ nm) (e0 : 0 < e) (he : e ≤ 5) (hn : n ≤ 13) (hS : n = 0 ∨ 0 < τ 2) (hq : q ≤ 1000) : f_X13_hasBeats (nI q) h = some (nI (allP (fun b => decide (bs τ e r b n k = q)) 1 e).toNat, h) := by
  unfold f_X13_hasBeats
  rw [li_1]
  have al := allLoop (h := h) (F := F_X13_hasBeats_2 (nI q) (fun h4 => some (0, h4)) (fun h5 => some (nI 1, h5))) (k0 := some (0, h)) (k1 := some (nI 1, h)) (fun b => decide (bs τ e r b n k = q)) 1 e (fun self => by
      unfold F_X13_hasBeats_2
      rw [R.2.2.1, if_pos (nI_lt (by omega) (by omega))]) (fun self b hb => by
      have c := (F.1.2 n (Nat.le_refl _) (1 + b) (by omega)).2
      rw [up_self] at c
      have bl := bs_le H e r (1 + b) n k hS
      unfold F_X13_hasBeats_2
      rw [R.2.2.1, if_neg (nI_nlt (by omega) (by omega)), F.2.1, li_6, pk_mul, nI_add, if_pos (inb_nI (by omega) (by decide)), nI_clamp (by omega), c, nI_1]
      by_cases h1 : bs τ e r (1 + b) n k = q
      · rw [if_pos (by rw [h1]), if_pos (decide_eq_true h1)]
      · rw [if_neg (fun z => h1 ((nI_eq (by omega) (by omega)).mp z)), if_neg (fun z => h1 (of_decide_eq_true z))]) (by omega)
  rw [al]
  cases allP (fun b => decide (bs τ e r b n k = q)) 1 e
  · rfl
  · rfl
theorem Qr_iff {e r n k : Nat} {g : Nat → Nat} {kb : Option Nat} : Qr τ e r g kb n k ↔ (∀ q, kb = some q → allP (fun b => decide (bs τ e r b n k = q)) 1 e = true) ∧ allP (fun b => gokB (g b) (mnt τ (rs τ e r b n k))) 0 (e + 1) = true := by
  unfold Qr
  rw [allP_t]
  constructor
  · intro ⟨a, b⟩
    refine ⟨fun q hq => allP_t.mpr (fun i hi => decide_eq_true (a q hq (1 + i) (by omega) (by omega))), fun i hi => ?_⟩
    rw [Nat.zero_add]
    exact b i (by omega)
  · intro ⟨a, b⟩
    refine ⟨fun q hq b' h1 h2 => ?_, fun b' hb => ?_⟩
    · have := of_decide_eq_true (allP_t.mp (a q hq) (b' - 1) (by omega))
      rw [show 1 + (b' - 1) = b' by omega] at this
      exact this
    · have := b b' (by omega)
      rw [Nat.zero_add] at this
      exact this
theorem m_shortest1 {e r n : Nat} {g : Nat → Nat} {kb : Option Nat} {x1 x3 : Int32} {k1 k0 : Hp → Option (Int32 × Hp)} (H : TgOk τ nm) (e0 : 0 < e) (he : e ≤ 5) (hr : r < 1000) (hn : n ≤ 13) (n1 : 1 ≤ n) (hp : τ 2 ^ n ≤ 1000000) (hg : ∀ b, b ≤ e → g b ≤ 9) (hk : ∀ q, kb = some q → q ≤ 1000) (R : RB τ e r h) (N : RN τ e r n 0 h) (h2 : ∀ b, b ≤ e → h.1 172 b = nI (g b)) : (∃ k h', k < τ 2 ^ n ∧ Qr τ e r g kb n k ∧ (∀ j, j < k → ¬ Qr τ e r g kb n j) ∧ itr1 (F_X13_shortest_12 x1 (kbI kb) x3 k1 k0) N0 h = k1 h' ∧ FS h h' ∧ RF τ e r n k h') ∨ ((∀ j, j < τ 2 ^ n → ¬ Qr τ e r g kb n j) ∧ ∃ h', itr1 (F_X13_shortest_12 x1 (kbI kb) x3 k1 k0) N0 h = k0 h' ∧ FS h h') := by
  refine itr1_loop (F := F_X13_shortest_12 x1 (kbI kb) x3 k1 k0) (fun q => (∃ k h', k < τ 2 ^ n ∧ Qr τ e r g kb n k ∧ (∀ j, j < k → ¬ Qr τ e r g kb n j) ∧ q = k1 h' ∧ FS h h' ∧ RF τ e r n k h') ∨ ((∀ j, j < τ 2 ^ n → ¬ Qr τ e r g kb n j) ∧ ∃ h', q = k0 h' ∧ FS h h')) (fun m y => ∃ j, m = τ 2 ^ n - j ∧ j ≤ τ 2 ^ n ∧ RN τ e r n j y ∧ FS h y ∧ ∀ i, i < j → ¬ Qr τ e r g kb n i) ?_ (τ 2 ^ n) h N0 (by have := N0_big; omega) ⟨0, by omega, by omega, N, FS.rf, fun i hi => by omega⟩
  intro m self y ⟨j, hm, hj, Ny, Fy, no⟩
  have Ry := R.fs Fy
  rcases m_nextRow H Ry e0 he hr hn n1 Ny hj with ⟨j1, y2, f1, F1, A1⟩ | ⟨j1, y2, f1, F1⟩
  · have R2 := Ry.fs F1
    have S0 : 0 < τ 2 := by
      apply Classical.byContradiction
      intro z
      rw [show τ 2 = 0 by omega, Nat.zero_pow (by omega)] at j1
      omega
    have mg := m_meetsGoals (g := g) R2 A1 H he hn (Or.inr S0) hg (fun b hb => by rw [(F1.1 172 (by decide)).1, (Fy.1 172 (by decide)).1]; exact h2 b hb)
    have fin : ∀ c : Bool, (Qr τ e r g kb n j ↔ c = true) → F_X13_shortest_12 x1 (kbI kb) x3 k1 k0 self y = (if c = true then k1 y2 else self y2) → ((∃ k h', k < τ 2 ^ n ∧ Qr τ e r g kb n k ∧ (∀ j, j < k → ¬ Qr τ e r g kb n j) ∧ F_X13_shortest_12 x1 (kbI kb) x3 k1 k0 self y = k1 h' ∧ FS h h' ∧ RF τ e r n k h') ∨ ((∀ j, j < τ 2 ^ n → ¬ Qr τ e r g kb n j) ∧ ∃ h', F_X13_shortest_12 x1 (kbI kb) x3 k1 k0 self y = k0 h' ∧ FS h h')) ∨ ∃ (d2 : Nat) (b1 : Hp), d2 < m ∧ (∃ j, d2 = τ 2 ^ n - j ∧ j ≤ τ 2 ^ n ∧ RN τ e r n j b1 ∧ FS h b1 ∧ ∀ i, i < j → ¬ Qr τ e r g kb n i) ∧ F_X13_shortest_12 x1 (kbI kb) x3 k1 k0 self y = self b1 := fun c hc ef => by
      by_cases hq : Qr τ e r g kb n j
      · left; left
        exact ⟨j, y2, j1, hq, no, by rw [ef, if_pos (hc.mp hq)], Fy.tr F1, A1⟩
      · right
        refine ⟨τ 2 ^ n - (j + 1), y2, by omega, ⟨j + 1, rfl, by omega, Or.inr ⟨j, rfl, j1, A1⟩, Fy.tr F1, fun i hi => ?_⟩, by rw [ef, if_neg (fun z => hq (hc.mpr z))]⟩
        by_cases h3 : i = j
        · rw [h3]; exact hq
        · exact no i (by omega)
    cases hkb : kb with
    | none =>
      rw [← hkb]
      refine fin (allP (fun b => gokB (g b) (mnt τ (rs τ e r b n j))) 0 (e + 1)) (by rw [Qr_iff]; exact ⟨fun z => z.2, fun z => ⟨fun q hq => (by rw [hkb] at hq; cases hq), z⟩⟩) ?_
      unfold F_X13_shortest_12 B_X13_shortest_31
      rw [f1, bndS, if_neg (by decide), hkb, if_pos (show kbI none < 0 by decide), mg, bndS]
      cases allP (fun b => gokB (g b) (mnt τ (rs τ e r b n j))) 0 (e + 1)
      · rfl
      · rfl
    | some q =>
      have hb := m_hasBeats (q := q) R2 A1 H e0 he hn (Or.inr S0) (hk q hkb)
      rw [← hkb]
      refine fin (allP (fun b => decide (bs τ e r b n j = q)) 1 e && allP (fun b => gokB (g b) (mnt τ (rs τ e r b n j))) 0 (e + 1)) (by
        rw [Qr_iff, Bool.and_eq_true]
        exact ⟨fun z => ⟨z.1 q hkb, z.2⟩, fun z => ⟨fun q' hq' => (by rw [hkb] at hq'; cases hq'; exact z.1), z.2⟩⟩) ?_
      unfold F_X13_shortest_12 B_X13_shortest_31
      rw [f1, bndS, if_neg (by decide), hkb, if_neg (show ¬ kbI (some q) < 0 from nI_pos (by have := hk q hkb; omega)), show kbI (some q) = nI q from rfl, hb, bndS, mg, bndS]
      cases allP (fun b => decide (bs τ e r b n j = q)) 1 e
      · rfl
      · cases allP (fun b => gokB (g b) (mnt τ (rs τ e r b n j))) 0 (e + 1)
        · rfl
        · rfl
  · left; right
    refine ⟨fun i hi => no i (by omega), y2, ?_, Fy.tr F1⟩
    unfold F_X13_shortest_12
    rw [f1, bndS, if_pos (by decide)]
theorem m_shortest {e r most : Nat} {g : Nat → Nat} {kb : Option Nat} (H : TgOk τ nm) (e0 : 0 < e) (he : e ≤ 5) (hr : r < 1000) (hm : most ≤ 6) (hg : ∀ b, b ≤ e → g b ≤ 9) (hk : ∀ q, kb = some q → q ≤ 1000) (R : RB τ e r h) (h2 : ∀ b, b ≤ e → h.1 172 b = nI (g b)) : ∃ h', FS h h' ∧ ((∃ n k, isSh τ e r g kb most n k ∧ f_X13_shortest (nI most) (kbI kb) h = some (nI n, h') ∧ RF τ e r n k h') ∨ (noSh τ e r g kb most ∧ f_X13_shortest (nI most) (kbI kb) h = some (-1, h'))) := by
  have h8 := H.1.2.2.1
  have LL := loopE (F := F_X13_shortest_2 (nI most) (kbI kb) (fun v16 h15 => some (v16, h15)) (fun h17 => some ((-1), h17))) (k0 := fun y => some (y.1 155 44, y)) (k1 := fun h17 => some ((-1), h17)) 1 (most + 1) (by omega) (fun n => ∀ j, j < τ 2 ^ n → ¬ Qr τ e r g kb n j) (fun n y => FS h y ∧ ∀ n', 1 ≤ n' → n' < n → ∀ j, j < τ 2 ^ n' → ¬ Qr τ e r g kb n' j) (fun y => FS h y ∧ ∃ n k, isSh τ e r g kb most n k ∧ RF τ e r n k y) (fun self y _ => by
      unfold F_X13_shortest_2
      rw [if_pos (nI_lt (by omega) (by omega))]) (fun self n y n1 n2 ⟨Fy, no⟩ => by
      have Ry := R.fs Fy
      obtain ⟨y1, f1, F1, A1, b43, b44, b73⟩ := m_begin (n := n) Ry he
      have R1 := Ry.fs F1
      have head : F_X13_shortest_2 (nI most) (kbI kb) (fun v16 h15 => some (v16, h15)) (fun h17 => some ((-1), h17)) self (nI n) y = itr1 (F_X13_shortest_12 (nI most) (kbI kb) (nI n) (fun h13 => some (nI n, h13)) (fun h14 => self (nI (n + 1)) h14)) N0 y1 := by
        unfold F_X13_shortest_2
        rw [if_neg (nI_nlt (by omega) (by omega)), f1, bnvS, nI_1]
      rw [head]
      rcases m_shortest1 (kb := kb) (x1 := nI most) (x3 := nI n) (k1 := fun h13 => some (nI n, h13)) (k0 := fun h14 => self (nI (n + 1)) h14) H e0 he hr (n := n) (by omega) n1 (by have := pow_le_6 h8 (show n ≤ 6 by omega); omega) hg hk R1 (Or.inl ⟨rfl, A1, b43, b44, b73⟩) (fun b hb => by rw [(F1.1 172 (by decide)).1, (Fy.1 172 (by decide)).1]; exact h2 b hb) with ⟨k, y2, k1, k2, k3, f2, F2, A2⟩ | ⟨k1, y2, f2, F2⟩
      · refine Or.inr ⟨fun z => z k k1 k2, y2, by rw [f2, A2.2.2], (Fy.tr F1).tr F2, n, k, ⟨n1, by omega, k1, k2, k3, no⟩, A2⟩
      · refine Or.inl ⟨k1, y2, f2, (Fy.tr F1).tr F2, fun n' w1 w2 => ?_⟩
        by_cases w3 : n' = n
        · rw [w3]; exact k1
        · exact no n' w1 (by omega)) h ⟨FS.rf, fun n' w1 w2 => by omega⟩ (by omega)
  have fe : f_X13_shortest (nI most) (kbI kb) h = itr2 (F_X13_shortest_2 (nI most) (kbI kb) (fun v16 h15 => some (v16, h15)) (fun h17 => some ((-1), h17))) N0 (nI 1) h := by
    unfold f_X13_shortest
    rw [li_1]
  rcases LL with ⟨-, y, a2, a3, a4⟩ | ⟨-, y, a2, a3, n, k, a4, a5⟩
  · exact ⟨y, a3, Or.inr ⟨fun n w1 w2 => a4 n w1 (by omega), by rw [fe, a2]⟩⟩
  · exact ⟨y, a3, Or.inl ⟨n, k, a4, by rw [fe, a2, a5.2.2], a5⟩⟩
theorem isSh_u {e r most n k n' k' : Nat} {g : Nat → Nat} {kb : Option Nat} (a : isSh τ e r g kb most n k) (b : isSh τ e r g kb most n' k') : n = n' ∧ k = k' := by
  obtain ⟨a1, a2, a3, a4, a5, a6⟩ := a
  obtain ⟨b1, b2, b3, b4, b5, b6⟩ := b
  have hn : n = n' := by
    rcases (show n < n' ∨ n' < n ∨ n = n' by omega) with z | z | z
    · exact absurd a4 (b6 n a1 z k a3)
    · exact absurd b4 (a6 n' b1 z k' b3)
    · exact z
  subst hn
  refine ⟨rfl, ?_⟩
  rcases (show k < k' ∨ k' < k ∨ k = k' by omega) with z | z | z
  · exact absurd a4 (b5 k z)
  · exact absurd b4 (a5 k' z)
  · exact z
theorem isSh_no {e r most n k : Nat} {g : Nat → Nat} {kb : Option Nat} (a : isSh τ e r g kb most n k) (b : noSh τ e r g kb most) : False := b n a.1 a.2.1 k a.2.2.1 a.2.2.2.1
/-- the row that was found is kept -/
theorem m_keepRow {e r n k : Nat} (hM : MR tp σ nm K fd fl tn h) (F : RF τ e r n k h) (hn : n ≤ 13) : ∃ h', f_X13_keepRow (nI n) h = some (nI n, h') ∧ MR tp σ nm K (dig (τ 2) n k) fl tn h' ∧ Lo h h' ∧ Same [155, 176] h h' ∧ (∀ j, j ≠ 42 → h'.1 155 j = h.1 155 j) ∧ h'.2 = h.2 := by
  obtain ⟨g, e1, p1, p2, p3, p4⟩ := loop2n (F := F_X13_keepRow_13 (nI n) (fun h7 => some (nI n, h7))) (k := fun h7 => some (nI n, h7)) n (fun i q => Same [155, 176] h q ∧ (∀ j, j ≠ 42 → q.1 155 j = h.1 155 j) ∧ (q.2 = h.2 ∧ q.1 155 42 = nI n) ∧ ∀ j, j < i → q.1 176 j = nI (dgt (τ 2) n k j)) (fun self q _ => by
      unfold F_X13_keepRow_13
      rw [if_pos (nI_le (Nat.le_refl _) (by omega))]) (fun self i q hi ⟨y1, y2, y3, y4⟩ => by
      have q8 : q.1 174 i = nI (dgt (τ 2) n k i) := by rw [(y1 174 (by decide)).1]; exact (F.1.1 i hi).1
      refine ⟨sI q 176 i (nI (dgt (τ 2) n k i)), ?_, y1.tr (Same.ofI (by decide)), fun j hj => by rw [sI_ne1 (by decide)]; exact y2 j hj, ⟨y3.1, by rw [sI_ne1 (by decide)]; exact y3.2⟩, fun j hj => ?_⟩
      · unfold F_X13_keepRow_13
        rw [if_neg (nI_ge hi (by omega)), if_pos (inb_nI (by omega) (by decide)), if_pos (inb_nI (by omega) (by decide)), lt_s0, nI_clamp (by omega), q8, nI_1]
      · by_cases hj2 : j = i
        · subst hj2
          rw [sI_s]
        · rw [sI_nk1 hj2]
          exact y4 j (by omega)) (sI h 155 42 (nI n)) ⟨Same.ofI (by decide), fun j hj => sI_nk1 hj, ⟨rfl, sI_s⟩, fun j hj => by omega⟩ (by omega)
  refine ⟨g, ?_, hM.fnd p1 p2 p3.1 (by rw [dig_len]; exact p3.2) (fun i hi => ?_), p1.lo (by decide), p1, p2, p3.1⟩
  · unfold f_X13_keepRow
    rw [if_pos (nI_pos' (by omega)), lt_s0, li_0, e1]
  · rw [dig_len] at hi
    rw [dig_dgt hi]
    exact p4 i hi
/-! the GOALS on the tape -/
def okG (σ : Nat → Nat) (tp : List Nat) : Prop := (tp.length = σ 3 + 1 ∧ σ 2 ≠ 0) ∧ ∀ i, i < tp.length → tp.getD i 0 ≤ 9
theorem c_goals (hA : AbOk tp σ nm K fd fl tn) (hC : CR tp σ nm K fd fl tn h) : ∃ h', ((okG σ tp ∧ f_X12_goalsFromTape h = some (1, h') ∧ ∀ b, b ≤ σ 3 → h'.1 127 b = nI (tp.getD b 0)) ∨ (¬ okG σ tp ∧ f_X12_goalsFromTape h = some (0, h'))) ∧ CR [] σ nm K fd fl tn h' ∧ Same [2, 127] h h' := by
  have ht := hA.1.1
  have hb := hA.1.2
  have H := hA.2.1.1
  have h8 := H.1.2.2.1
  have e5' := H.1.2.2.2.2.1
  obtain ⟨c1, c2⟩ := hC.1
  obtain ⟨h3, eh3⟩ : ∃ q, q = sI h 2 1 (nI 0) := ⟨_, rfl⟩
  have C3 : CR [] σ nm K fd fl tn h3 := by rw [eh3]; exact CR.empty hA hC
  have s3 : Same [2, 127] h h3 := by rw [eh3]; exact Same.ofI (by decide)
  have t2 : h3.1 7 2 = nI (σ 2) := C3.2.1.1.1.2.2.1
  have t9 : h3.1 9 0 = nI (σ 3) := C3.2.1.1.1.2.2.2.1
  have e0 : f_X12_goalsFromTape h = (if nI tp.length = nI (σ 3 + 1) then if nI (σ 2) = 0 then some (0, h3) else itr2 (F_X12_goalsFromTape_52 (nI tp.length) (fun h10 => some (0, h10)) (fun h11 => some (1, h11))) N0 (nI 0) h3 else some (0, h3)) := by
    unfold f_X12_goalsFromTape
    rw [lt_s0, lt_s0, c1, show sI h 2 1 0 = h3 from eh3.symm, t2, t9, nI_1, li_0]
  by_cases hl : tp.length = σ 3 + 1
  · by_cases hz : σ 2 = 0
    · refine ⟨h3, Or.inr ⟨fun z => z.1.2 hz, ?_⟩, C3, s3⟩
      rw [e0, if_pos (by rw [hl]), hz, if_pos (by decide)]
    · have LL := loopE (F := F_X12_goalsFromTape_52 (nI tp.length) (fun h10 => some (0, h10)) (fun h11 => some (1, h11))) (k0 := fun h10 => some (0, h10)) (k1 := fun h11 => some (1, h11)) 0 tp.length (by omega) (fun i => tp.getD i 0 ≤ 9) (fun i y => Same [127] h3 y ∧ ∀ j, j < i → y.1 127 j = nI (tp.getD j 0)) (fun y => Same [127] h3 y) (fun self y _ => by
          unfold F_X12_goalsFromTape_52
          rw [if_pos (nI_le (Nat.le_refl _) (by omega))]) (fun self i y _ hi ⟨z1, z2⟩ => by
          have y3 : y.1 3 i = nI (tp.getD i 0) := by rw [(z1 3 (by decide)).1, (s3 3 (by decide)).1]; exact c2 i hi
          have b : tp.getD i 0 < 256 := getD_P hi hb
          by_cases h9 : tp.getD i 0 ≤ 9
          · refine Or.inl ⟨h9, sI y 127 i (nI (tp.getD i 0)), ?_, z1.tr (Same.ofI (by decide)), fun j hj => ?_⟩
            · unfold F_X12_goalsFromTape_52 f_X2_want
              rw [if_neg (nI_ge hi (by omega)), if_pos (inb_nI (by omega) (by decide)), nI_clamp (by omega), y3, if_pos (show nI (tp.getD i 0) ≤ (9 : Int32) from nI_le (b := 9) h9 (by decide)), if_pos (inb_nI (by omega) (by decide)), if_neg (nI_pos (by omega)), if_neg (show ¬ (6 : Int32) ≤ nI i from nI_ge (b := 6) (by omega) (by decide)), if_pos (inb_nI (by omega) (by decide)), lt_s0, bnvS, nI_1]
            · by_cases hj2 : j = i
              · rw [hj2, sI_s]
              · rw [sI_nk1 hj2]; exact z2 j (by omega)
          · refine Or.inr ⟨h9, y, ?_, z1⟩
            unfold F_X12_goalsFromTape_52
            rw [if_neg (nI_ge hi (by omega)), if_pos (inb_nI (by omega) (by decide)), nI_clamp (by omega), y3, if_neg (show ¬ nI (tp.getD i 0) ≤ (9 : Int32) from nI_ge (a := 9) (by omega) (by omega))]) h3 ⟨Same.rf, fun j hj => by omega⟩ (by omega)
      have mo : ∀ y, Same [127] h3 y → CR [] σ nm K fd fl tn y ∧ Same [2, 127] h y := fun y hy => ⟨C3.scr2 hA.empty hy (by decide), s3.tr (hy.mono (fun q hq => by simp only [List.mem_cons, List.not_mem_nil, or_false] at hq ⊢; omega))⟩
      rw [e0, if_pos (by rw [hl]), if_neg (show ¬ nI (σ 2) = 0 from fun z => hz ((nI_eq (b := 0) (by omega) (by omega)).mp z))]
      rcases LL with ⟨a1, y, a2, a3, a4⟩ | ⟨⟨i, a1, a1', a1''⟩, y, a2, a3⟩
      · exact ⟨y, Or.inl ⟨⟨⟨hl, hz⟩, fun i hi => a1 i (by omega) hi⟩, a2, fun b hb => a4 b (by omega)⟩, mo y a3⟩
      · exact ⟨y, Or.inr ⟨fun z => a1'' (z.2 i a1'), a2⟩, mo y a3⟩
  · refine ⟨h3, Or.inr ⟨fun z => hl z.1.1, ?_⟩, C3, s3⟩
    rw [e0, if_neg (fun z => hl ((nI_eq (by omega) (by omega)).mp z))]
theorem RB.ofM (hM : MR tp σ nm K fd fl tn h) (ms : MS σ h) : RB σ (σ 3) (σ 4) h := ⟨fun k hk _ => hM.2.1 k (by omega), ms.2.2, ms.1, ms.2.1⟩
theorem m_goals (hA : AbOk tp σ nm K fd fl tn) (hM : MR tp σ nm K fd fl tn h) : ∃ h', ((okG σ tp ∧ f_X13_takesGoals h = some (1, h') ∧ RB σ (σ 3) (σ 4) h' ∧ ∀ b, b ≤ σ 3 → h'.1 172 b = nI (tp.getD b 0)) ∨ (¬ okG σ tp ∧ f_X13_takesGoals h = some (0, h'))) ∧ MR [] σ nm K fd fl tn h' ∧ Lo h h' := by
  have ht := hA.1.1
  have hb := hA.1.2
  have H := hA.2.1.1
  have h8 := H.1.2.2.1
  have e5' := H.1.2.2.2.2.1
  obtain ⟨h1, f1, M1, s1, l1, a3, a4, a5, aB, aj⟩ := m_taken (nI 940) hM
  have L1 : Lo h h1 := s1.lo (by decide)
  have e0 : f_X13_takesGoals h = (if nI (σ 2) = 0 then some (0, h1) else if nI tp.length = nI (σ 3 + 1) then itr2 (F_X13_takesGoals_35 (fun h11 => some (0, h11)) (fun h12 => bnv (f_X13_settle h12) fun h13 => some (1, h13))) N0 (nI 0) h1 else some (0, h1)) := by
    unfold f_X13_takesGoals
    rw [show (940 : Int32) = nI 940 from rfl, f1, bnvS, li_2, li_3, clp (by omega), clp (by omega), M1.2.1 2 (by omega), M1.2.1 3 (by omega), a3, nI_1, li_0]
  by_cases hz : σ 2 = 0
  · refine ⟨h1, Or.inr ⟨fun z => z.1.2 hz, ?_⟩, M1, L1⟩
    rw [e0, hz, if_pos (by decide)]
  · rw [e0, if_neg (show ¬ nI (σ 2) = 0 from fun z => hz ((nI_eq (b := 0) (by omega) (by omega)).mp z))]
    by_cases hl : tp.length = σ 3 + 1
    · have LL := loopE (F := F_X13_takesGoals_35 (fun h11 => some (0, h11)) (fun h12 => bnv (f_X13_settle h12) fun h13 => some (1, h13))) (k0 := fun h11 => some (0, h11)) (k1 := fun h12 => bnv (f_X13_settle h12) fun h13 => some (1, h13)) 0 tp.length (by omega) (fun i => tp.getD i 0 ≤ 9) (fun i y => Same [172] h1 y ∧ ∀ j, j < i → y.1 172 j = nI (tp.getD j 0)) (fun y => Same [172] h1 y) (fun self y ⟨z1, _⟩ => by
          unfold F_X13_takesGoals_35
          rw [(z1 155 (by decide)).1, a3, if_pos (nI_le (Nat.le_refl _) (by omega))]) (fun self i y _ hi ⟨z1, z2⟩ => by
          have oc := m_octet (h := y) (i := i) (by rw [(z1 156 (by decide)).1]; exact aB) hi ht hb
          have b : tp.getD i 0 < 256 := getD_P hi hb
          have z1' : Same [172] h1 (sI y 172 i (nI (tp.getD i 0))) := z1.tr (Same.ofI (by decide))
          have head : F_X13_takesGoals_35 (fun h11 => some (0, h11)) (fun h12 => bnv (f_X13_settle h12) fun h13 => some (1, h13)) self (nI i) y = (if nI (tp.getD i 0) ≤ 9 then self (nI (i + 1)) (sI y 172 i (nI (tp.getD i 0))) else some (0, sI y 172 i (nI (tp.getD i 0)))) := by
            unfold F_X13_takesGoals_35
            rw [(z1 155 (by decide)).1, a3, if_neg (nI_ge hi (by omega)), oc, bndS, if_pos (inb_nI (by omega) (by decide)), lt_s0, if_pos (inb_nI (by omega) (by decide)), nI_clamp (by omega), sI_s, nI_1]
          rw [head]
          by_cases h9 : tp.getD i 0 ≤ 9
          · refine Or.inl ⟨h9, _, by rw [if_pos (show nI (tp.getD i 0) ≤ (9 : Int32) from nI_le (b := 9) h9 (by decide))], z1', fun j hj => ?_⟩
            by_cases hj2 : j = i
            · rw [hj2, sI_s]
            · rw [sI_nk1 hj2]; exact z2 j (by omega)
          · exact Or.inr ⟨h9, _, by rw [if_neg (show ¬ nI (tp.getD i 0) ≤ (9 : Int32) from nI_ge (a := 9) (by omega) (by omega))], z1'⟩) h1 ⟨Same.rf, fun j hj => by omega⟩ (by omega)
      rw [if_pos (by rw [hl])]
      rcases LL with ⟨a1, y, a2, b1, b2⟩ | ⟨⟨i, b1, b2, b3⟩, y, a2, b4⟩
      · have My := M1.scr b1 (by decide)
        obtain ⟨y2, f2, z1, z2, z3, z4, z5⟩ := m_settle My H
        have M2 := My.settled z1 z2 z3 z4 z5
        refine ⟨y2, Or.inl ⟨⟨⟨hl, hz⟩, fun i hi => a1 i (by omega) hi⟩, by rw [a2, f2, bnvS], RB.ofM M2 z5, fun b hb => ?_⟩, M2, L1.tr ((b1.lo (by decide)).tr (z1.lo (by decide)))⟩
        rw [(z1 172 (by decide)).1]
        exact b2 b (by omega)
      · exact ⟨y, Or.inr ⟨fun z => b3 (z.2 i b2), a2⟩, M1.scr b4 (by decide), L1.tr (b4.lo (by decide))⟩
    · refine ⟨h1, Or.inr ⟨fun z => hl z.1.1, ?_⟩, M1, L1⟩
      rw [if_neg (fun z => hl ((nI_eq (by omega) (by omega)).mp z))]
end TI
