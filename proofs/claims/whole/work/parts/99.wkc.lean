section WKC
variable {tp : List Nat} {σ : Nat → Nat} {nm : Nat → List Nat} {K : Im} {fd : List Nat} {fl : Nat} {tn : Option Tn} {h h' : Hp}
theorem idl_bit : ∀ x, x < 256 → ∀ k, k < 8 → (nI (x.testBit k).toNat : Int32) = nI (x / 2 ^ k % 2) := by decide +kernel
theorem idl_at (H : TgOk σ nm) {w : Nat} (hw : w < 8) : idl σ < 256 ∧ (idl σ).testBit w = decide (σ (64 + w) = 1) := by
  have l : ∀ j, j < 8 → σ (64 + j) ≤ 1 := fun j hj => H.2.2.2.2.1 _ (by omega) (by omega)
  have l0 : σ 64 ≤ 1 := l 0 (by omega)
  have l1 : σ 65 ≤ 1 := l 1 (by omega)
  have l2 : σ 66 ≤ 1 := l 2 (by omega)
  have l3 : σ 67 ≤ 1 := l 3 (by omega)
  have l4 : σ 68 ≤ 1 := l 4 (by omega)
  have l5 : σ 69 ≤ 1 := l 5 (by omega)
  have l6 : σ 70 ≤ 1 := l 6 (by omega)
  have l7 : σ 71 ≤ 1 := l 7 (by omega)
  have lt : idl σ < 256 := by unfold idl; omega
  refine ⟨lt, ?_⟩
  have tb : (idl σ).testBit w = decide (idl σ / 2 ^ w % 2 = 1) := by rw [Nat.testBit_eq_decide_div_mod_eq]
  rw [tb]
  have key : idl σ / 2 ^ w % 2 = σ (64 + w) := by
    unfold idl
    rcases (show w = 0 ∨ w = 1 ∨ w = 2 ∨ w = 3 ∨ w = 4 ∨ w = 5 ∨ w = 6 ∨ w = 7 by omega) with rfl | rfl | rfl | rfl | rfl | rfl | rfl | rfl
    · show _ / 1 % 2 = σ 64; omega
    · show _ / 2 % 2 = σ 65; omega
    · show _ / 4 % 2 = σ 66; omega
    · show _ / 8 % 2 = σ 67; omega
    · show _ / 16 % 2 = σ 68; omega
    · show _ / 32 % 2 = σ 69; omega
    · show _ / 64 % 2 = σ 70; omega
    · show _ / 128 % 2 = σ 71; omega
  rw [key]
def wdR (σ : Nat → Nat) (w : Nat) : Nat → Nat
  | 0 => 0
  | n + 1 => wdR σ w n + σ (72 + 5 * w + n)
theorem pop_rds : ∀ a, a < 2 → ∀ b, b < 2 → ∀ c, c < 2 → ∀ d, d < 2 → ∀ e, e < 2 → pop (a + b * 2 + c * 4 + d * 8 + e * 16) = 0 + a + b + c + d + e := by decide +kernel
theorem rds_pop (H : TgOk σ nm) {w : Nat} (hw : w < 8) : pop (rds σ w) = wdR σ w 5 := by
  have l : ∀ j, j < 5 → σ (72 + 5 * w + j) < 2 := fun j hj => by have := H.2.2.2.2.1 (72 + 5 * w + j) (by omega) (by omega); omega
  have e := pop_rds _ (l 0 (by omega)) _ (l 1 (by omega)) _ (l 2 (by omega)) _ (l 3 (by omega)) _ (l 4 (by omega))
  show pop (σ (72 + 5 * w) + σ (73 + 5 * w) * 2 + σ (74 + 5 * w) * 4 + σ (75 + 5 * w) * 8 + σ (76 + 5 * w) * 16) = 0 + σ (72 + 5 * w + 0) + σ (72 + 5 * w + 1) + σ (72 + 5 * w + 2) + σ (72 + 5 * w + 3) + σ (72 + 5 * w + 4)
  rw [← e, show 72 + 5 * w + 0 = 72 + 5 * w from rfl, show 72 + 5 * w + 1 = 73 + 5 * w by omega, show 72 + 5 * w + 2 = 74 + 5 * w by omega, show 72 + 5 * w + 3 = 75 + 5 * w by omega, show 72 + 5 * w + 4 = 76 + 5 * w by omega]
theorem st_word (x y : Int32) (hI : Inv h) : (∃ v h2, f_X12_word x y h = some (v, h) ∧ f_X13_word x y h = some (v, h2) ∧ h2.1 155 0 = 0 ∧ Inv h2) ∨ (badW x y h ∧ ∃ v h2, f_X13_word x y h = some (v, h2) ∧ h2.1 155 0 = 1 ∧ Inv h2) := by
  obtain ⟨tp, σ, nm, K, fd, fl, tn, hA, hC, hM⟩ := hI
  have hS := hA.2.1
  have H := hS.1
  have h8 := H.1.2.2.1
  have T := hC.2.1.1
  have m2 : h.1 157 2 = nI (σ 2) := hM.2.1 2 (by omega)
  have bad1 : ∀ t, B_X13_word_23 x y 1 h = t → ∃ v h2, t = some (v, h2) ∧ h2.1 155 0 = 1 ∧ Inv h2 := fun t ht => by
    refine ⟨0, sI h 155 0 1, ?_, sI_s, tp, σ, nm, K, fd, fl, tn, hA, hC.lo hA (th_Lo 1), hM.keep (th_Eq 1)⟩
    rw [← ht]
    unfold B_X13_word_23
    rw [th_1, bndS, if_neg (show ¬ (1 : Int32) = 0 by decide)]
  have nb : ∀ z : Int32, (∀ w, w < 5 → z ≠ nI w) → z < 0 ∨ (¬ z < 0 ∧ ¬ z ≤ 4) := fun z hz => by
    by_cases z0 : z < 0
    · exact Or.inl z0
    · refine Or.inr ⟨z0, fun z1 => ?_⟩
      obtain ⟨j, q1, q2, q3⟩ := in_range (x := z) (a := 0) (b := 4) (by decide) (by decide) z0 (fun z' => by
        rw [fa_lt, nI_toInt (by decide)] at z'
        rw [fa_le, show (4 : Int32).toInt = 4 from rfl] at z1
        omega)
      exact hz j (by omega) q3
  unfold f_X13_word
  rcases c_hasSaying x (t := 7) (n := σ 2) (h := h) T.1.2.2.1 (by omega) with ⟨w, hw, rfl, ew⟩ | ⟨ew, hx⟩
  · rw [m_sayT m2 hw (by omega), bndS, if_neg (show ¬ nI 1 = 0 by decide)]
    rcases m_isIn y (lo := 0) (hi := 4) (a := 0) (b := 4) h rfl rfl (by decide) (by decide) with ⟨e, q⟩ | ⟨k, q1, hk, rfl, e⟩
    · rw [e, bndS, if_pos rfl]
      exact Or.inr ⟨Or.inr ⟨ew, nb y (fun w hw => q w (Nat.zero_le _) (by omega))⟩, bad1 _ rfl⟩
    · rw [e, bndS, if_neg (show ¬ (1 : Int32) = 0 by decide)]
      refine Or.inl ?_
      have M1 := hM.keep (th_Eq 0)
      have tw := T.2.2.2.2.1 w hw
      have tr := T.2.2.2.2.2.1.1 w (by omega)
      have ti := T.2.2.2.2.2.1.2
      obtain ⟨il, ib⟩ := idl_at H (w := w) (by omega)
      have rl := rds_lt H (w := w) (by omega)
      have ix : σ (64 + w) ≤ 1 := H.2.2.2.2.1 _ (by omega) (by omega)
      obtain ⟨v, hv⟩ : ∃ v : Nat, v = if k = 0 then σ (40 + w) else if k = 1 then σ (48 + w) else if k = 2 then σ (56 + w) else if k = 3 then σ (64 + w) else wdR σ w 5 := ⟨_, rfl⟩
      have kc : ∀ c : Nat, c < 5 → (nI k = nI c) = (k = c) := fun c hc => propext (nI_eq (by omega) (by omega))
      have k0 : ((nI k : Int32) = 0) = (k = 0) := kc 0 (by omega)
      have k1 : ((nI k : Int32) = 1) = (k = 1) := kc 1 (by omega)
      have k2 : ((nI k : Int32) = 2) = (k = 2) := kc 2 (by omega)
      have k3 : ((nI k : Int32) = 3) = (k = 3) := kc 3 (by omega)
      have inb8 : inb (nI w) 8 = true := inb_nI (by omega) (by decide)
      refine ⟨nI v, sI h 155 0 0, ?_, ?_, sI_s, tp, σ, nm, K, fd, fl, tn, hA, hC.lo hA (th_Lo 0), M1⟩
      · unfold f_X12_word
        rw [ew, bndS, if_neg (show ¬ nI 1 = 0 by decide), if_neg (show ¬ nI k < 0 from nI_nlt (b := 0) (by omega) (by omega)), if_pos (show nI k ≤ 4 from nI_le (b := 4) (by omega) (by omega)), clp (by omega), show h.1 12 w = nI (σ (40 + w)) from tw.1, show h.1 13 w = nI (σ (48 + w)) from tw.2.1, show h.1 14 w = nI (σ (56 + w)) from tw.2.2, show h.1 15 w = nI (rds σ w) from tr, show h.1 7 11 = nI (idl σ) from ti, if_pos inb8, if_pos inb8, if_pos inb8, if_pos inb8, c_bc (by omega), bndS, rds_pop H (by omega), li_1, bitN (by omega) (by omega), ← li_1, ib, hv]
        by_cases z0 : k = 0
        · rw [if_pos (by rw [k0]; exact z0), if_pos z0]
        · rw [if_neg (by rw [k0]; exact z0), if_neg z0]
          by_cases z1 : k = 1
          · rw [if_pos (by rw [k1]; exact z1), if_pos z1]
          · rw [if_neg (by rw [k1]; exact z1), if_neg z1]
            by_cases z2 : k = 2
            · rw [if_pos (by rw [k2]; exact z2), if_pos z2]
            · rw [if_neg (by rw [k2]; exact z2), if_neg z2]
              by_cases z3 : k = 3
              · rw [if_pos (by rw [k3]; exact z3), if_pos z3]
                rcases (show σ (64 + w) = 0 ∨ σ (64 + w) = 1 by omega) with z | z
                · rw [z]; rfl
                · rw [z]; rfl
              · rw [if_neg (by rw [k3]; exact z3), if_neg z3]
      · unfold B_X13_word_23
        rw [th_0, bndS, if_pos (show (0 : Int32) = 0 from rfl)]
        have r7 : ∀ j, j < 713 → (sI h 155 0 0).1 157 j = nI (σ j) := M1.2.1
        refine sq3 5 (fun i => nI (wdR σ w i)) (fun i => nI i) (fun _ => sI h 155 0 0) (fun self => ?_) (fun self i hi => ?_) (by omega) rfl rfl rfl
        · unfold F_X13_word_36
          rw [if_pos (show (5 : Int32) ≤ nI 5 by decide)]
          show (if nI k = 0 then if inb (40 + nI w) 713 = true then some ((sI h 155 0 0).1 157 ((40 + nI w).toNatClampNeg), sI h 155 0 0) else none else if nI k = 1 then if inb (48 + nI w) 713 = true then some ((sI h 155 0 0).1 157 ((48 + nI w).toNatClampNeg), sI h 155 0 0) else none else if nI k = 2 then if inb (56 + nI w) 713 = true then some ((sI h 155 0 0).1 157 ((56 + nI w).toNatClampNeg), sI h 155 0 0) else none else if nI k = 3 then if inb (64 + nI w) 713 = true then some ((sI h 155 0 0).1 157 ((64 + nI w).toNatClampNeg), sI h 155 0 0) else none else some (nI (wdR σ w 5), sI h 155 0 0)) = _
          rw [li_40, nI_add, li_48, nI_add, li_56, nI_add, li_64, nI_add, if_pos (inb_nI (by omega) (by decide)), if_pos (inb_nI (by omega) (by decide)), if_pos (inb_nI (by omega) (by decide)), if_pos (inb_nI (by omega) (by decide)), clp (by omega), clp (by omega), clp (by omega), clp (by omega), r7 _ (by omega), r7 _ (by omega), r7 _ (by omega), r7 _ (by omega), hv]
          by_cases z0 : k = 0
          · rw [if_pos (by rw [k0]; exact z0), if_pos z0]
          · rw [if_neg (by rw [k0]; exact z0), if_neg z0]
            by_cases z1 : k = 1
            · rw [if_pos (by rw [k1]; exact z1), if_pos z1]
            · rw [if_neg (by rw [k1]; exact z1), if_neg z1]
              by_cases z2 : k = 2
              · rw [if_pos (by rw [k2]; exact z2), if_pos z2]
              · rw [if_neg (by rw [k2]; exact z2), if_neg z2]
                by_cases z3 : k = 3
                · rw [if_pos (by rw [k3]; exact z3), if_pos z3]
                · rw [if_neg (by rw [k3]; exact z3), if_neg z3]
        · unfold F_X13_word_36
          rw [if_neg (show ¬ (5 : Int32) ≤ nI i from nI_ge (b := 5) (a := i) hi (by omega)), li_72, li_5, pk_mul, nI_add, nI_add, if_pos (inb_nI (by omega) (by decide)), clp (by omega), r7 _ (by omega), nI_add, lt_s1, nI_1]
          rfl
  · rw [m_sayF m2 hx (by omega), bndS, if_pos (show nI 0 = 0 from rfl)]
    exact Or.inr ⟨Or.inl ew, bad1 _ rfl⟩
end WKC
