section TORNC
variable {tp : List Nat} {σ : Nat → Nat} {nm : Nat → List Nat} {K : Im} {fd : List Nat} {fl : Nat} {tn : Option Tn} {h h' : Hp}
theorem m_tornL {b n : Nat} (a1 : h.1 155 25 = nI (σ 3)) (a2 : h.1 155 26 = nI (σ 4)) (a3 : h.1 155 3 = nI tp.length) (a4 : lsB (h.1 156) tp) (a5 : h.1 157 2 = nI (σ 2)) (H : TgOk σ nm) (ht : tp.length ≤ 940) (hb : ∀ x ∈ tp, x < 256) (b1 : b < 1000) (hn : n ≤ 12) (kk : Int32 → Hp → Option (Int64 × Hp)) : ((∀ i, i < n → gdB σ b tp i = true) → ∃ h', itr3 (F_X13_torn_49 (nI b) (nI n) (fun h26 => some (-1, h26)) kk) N0 (nI 0) (nI 0) h = kk (nI (cu (σ 3) (σ 4) b n)) h' ∧ Same [178] h h' ∧ h'.2 = h.2 ∧ ∀ i, i < n → h'.1 178 i = lI (lT (σ 3) (σ 4) b tp i)) ∧ ((¬ ∀ i, i < n → gdB σ b tp i = true) → ∃ h', itr3 (F_X13_torn_49 (nI b) (nI n) (fun h26 => some (-1, h26)) kk) N0 (nI 0) (nI 0) h = some (-1, h') ∧ Same [178] h h' ∧ h'.2 = h.2) := by
  have S := fun (g : Hp) (q1 : Same [178] h g) (i : Nat) (hi : i < n) (self : Int32 → Int32 → Hp → Option (Int64 × Hp)) => m_tornS (h := g) (b := b) (n := n) (i := i) (k98 := fun h26 => some (-1, h26)) (kk := kk) (self := self) (by rw [(q1 155 (by decide)).1]; exact a1) (by rw [(q1 155 (by decide)).1]; exact a2) (by rw [(q1 155 (by decide)).1]; exact a3) (by rw [(q1 156 (by decide)).1]; exact a4) (by rw [(q1 157 (by decide)).1]; exact a5) H ht hb b1 hi hn
  have ST : ∀ (m : Nat), m ≤ n → (∀ i, i < m → gdB σ b tp i = true) → ∀ (k : Hp → Option (Int64 × Hp)), (∀ self g, Same [178] h g ∧ g.2 = h.2 ∧ (∀ i, i < m → g.1 178 i = lI (lT (σ 3) (σ 4) b tp i)) → F_X13_torn_49 (nI b) (nI n) (fun h26 => some (-1, h26)) kk self (nI (cu (σ 3) (σ 4) b m)) (nI m) g = k g) → ∃ h', itr3 (F_X13_torn_49 (nI b) (nI n) (fun h26 => some (-1, h26)) kk) N0 (nI 0) (nI 0) h = k h' ∧ Same [178] h h' ∧ h'.2 = h.2 ∧ ∀ i, i < m → h'.1 178 i = lI (lT (σ 3) (σ 4) b tp i) := fun m hm hg k hx =>
    loopQ3 (F := F_X13_torn_49 (nI b) (nI n) (fun h26 => some (-1, h26)) kk) (k := k) m (fun i => nI (cu (σ 3) (σ 4) b i)) (fun i => nI i) (fun i g => Same [178] h g ∧ g.2 = h.2 ∧ ∀ j, j < i → g.1 178 j = lI (lT (σ 3) (σ 4) b tp j)) hx (fun self i g hi ⟨q1, q2, q3⟩ => by
      obtain ⟨g', e, r1, r2, r3, r4⟩ := (S g q1 i (by omega) self).1 (hg i hi)
      refine ⟨g', e, q1.tr r1, r2.trans q2, fun j hj => ?_⟩
      by_cases h1 : j = i
      · subst h1; exact r3
      · rw [r4 j h1]; exact q3 j (by omega)) h ⟨Same.rf, rfl, fun j hj => by omega⟩ (by omega)
  constructor
  · intro hg
    exact ST n (Nat.le_refl _) hg (fun g => kk (nI (cu (σ 3) (σ 4) b n)) g) (fun self g _ => by
      unfold F_X13_torn_49
      rw [if_pos (nI_le (Nat.le_refl _) (by omega))])
  · intro hg
    obtain ⟨a, b', c⟩ := fst_spec (fun i => !gdB σ b tp i) n
    have lt : fst (fun i => !gdB σ b tp i) n < n := by
      by_cases h1 : fst (fun i => !gdB σ b tp i) n < n
      · exact h1
      · refine absurd (fun i hi => ?_) hg
        have := b' i (by omega)
        cases q : gdB σ b tp i
        · rw [q] at this; cases this
        · rfl
    have bad : gdB σ b tp (fst (fun i => !gdB σ b tp i) n) = false := by
      have := c lt
      cases q : gdB σ b tp (fst (fun i => !gdB σ b tp i) n)
      · rfl
      · rw [q] at this; cases this
    obtain ⟨m, hm⟩ : ∃ m, m = fst (fun i => !gdB σ b tp i) n := ⟨_, rfl⟩
    rw [← hm] at lt bad b'
    obtain ⟨h', e, r1, r2, r3⟩ := ST m (by omega) (fun i hi => by
      have := b' i hi
      cases q : gdB σ b tp i
      · rw [q] at this; cases this
      · rfl) (fun g => some (-1, sI g 178 m (-1))) (fun self g ⟨q1, _, _⟩ => (S g q1 m lt self).2 bad)
    exact ⟨_, e, r1.tr (Same.ofI (by decide)), r2⟩
end TORNC
