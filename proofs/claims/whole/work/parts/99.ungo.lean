section UNGO
variable {tp : List Nat} {ρ ρ' σ : Nat → Nat} {nS nK nm nS' nK' nm' : Nat → List Nat} {h h' gc gc1 gm : Hp} {s ed ck : Nat} {rc rm : Option (Int32 × Hp)}
/-! a SORT more -/
def beS (ρ : Nat → Nat) (b e : Nat) : Nat → Nat := fun j => if j = 5 + ρ 0 then b else if j = 10 + ρ 0 then e else ρ j
def soS (ρ : Nat → Nat) (b e : Nat) : Nat → Nat := fun j => if j = 0 then ρ 0 + 1 else beS ρ b e j
def soN (ρ : Nat → Nat) (nS : Nat → List Nat) (l : List Nat) : Nat → List Nat := fun i => if i = ρ 0 then l else nS i
theorem beS_o {b e j : Nat} (h1 : j ≠ 5 + ρ 0) (h2 : j ≠ 10 + ρ 0) : beS ρ b e j = ρ j := by unfold beS; rw [if_neg h1, if_neg h2]
theorem soS_o {b e j : Nat} (h0 : j ≠ 0) (h1 : j ≠ 5 + ρ 0) (h2 : j ≠ 10 + ρ 0) : soS ρ b e j = ρ j := by unfold soS; rw [if_neg h0, beS_o h1 h2]
theorem soS_0 (b e : Nat) : soS ρ b e 0 = ρ 0 + 1 := if_pos rfl
theorem soS_b (b e : Nat) : soS ρ b e (5 + ρ 0) = b := by unfold soS beS; rw [if_neg (by omega), if_pos rfl]
theorem soS_e (b e : Nat) : soS ρ b e (10 + ρ 0) = e := by unfold soS beS; rw [if_neg (by omega), if_neg (by omega), if_pos rfl]
theorem ahd_so {b e : Nat} (H : TgOk ρ nm) (hk : ρ 0 < 5) : ahd (soS ρ b e) (ρ 0) = ahd ρ (ρ 0) + 255 * b * 1099511627776 ∧ ahd ρ (ρ 0) < 1099511627776 ∧ ∀ k, k < 5 → k ≠ ρ 0 → ahd (soS ρ b e) k = ahd ρ k := by
  have z : ρ (5 + ρ 0) = 0 := (H.2.2.1 (ρ 0) (by omega) hk).1
  have o : ∀ j, 15 ≤ j → soS ρ b e j = ρ j := fun j hj => soS_o (by omega) (by omega) (by omega)
  have l0 := H.2.1 (15 + ρ 0) (by omega) (by omega)
  have l1 := H.2.1 (20 + ρ 0) (by omega) (by omega)
  have l2 := H.2.1 (25 + ρ 0) (by omega) (by omega)
  have l3 := H.2.1 (30 + ρ 0) (by omega) (by omega)
  have l4 := H.2.1 (35 + ρ 0) (by omega) (by omega)
  refine ⟨?_, ?_, fun k k5 hne => ?_⟩
  · unfold ahd
    rw [o _ (by omega), o _ (by omega), o _ (by omega), o _ (by omega), o _ (by omega), soS_b, z]
    omega
  · unfold ahd
    rw [z]
    omega
  · unfold ahd
    rw [o _ (by omega), o _ (by omega), o _ (by omega), o _ (by omega), o _ (by omega), soS_o (by omega) (by omega) (by omega)]
theorem ens_so {b e : Nat} (H : TgOk ρ nm) (hk : ρ 0 < 5) : ens (soS ρ b e) = ens ρ + 255 * e * 2 ^ (8 * ρ 0) ∧ ens ρ < 2 ^ (8 * ρ 0) := by
  have z : ∀ j, ρ 0 ≤ j → j < 5 → ρ (10 + j) = 0 := fun j h1 h2 => (H.2.2.1 j h1 h2).2.1
  have l : ∀ j, j < 5 → ρ (10 + j) ≤ 1 := fun j hj => H.2.1 _ (by omega) (by omega)
  have l0 : ρ 10 ≤ 1 := l 0 (by omega)
  have l1 : ρ 11 ≤ 1 := l 1 (by omega)
  have l2 : ρ 12 ≤ 1 := l 2 (by omega)
  have l3 : ρ 13 ≤ 1 := l 3 (by omega)
  have l4 : ρ 14 ≤ 1 := l 4 (by omega)
  have v : ∀ j, j < 5 → soS ρ b e (10 + j) = if j = ρ 0 then e else ρ (10 + j) := fun j hj => by
    by_cases q : j = ρ 0
    · rw [if_pos q, q, soS_e]
    · rw [if_neg q, soS_o (by omega) (by omega) (by omega)]
  have e0 : soS ρ b e 10 = if 0 = ρ 0 then e else ρ 10 := v 0 (by omega)
  have e1 : soS ρ b e 11 = if 1 = ρ 0 then e else ρ 11 := v 1 (by omega)
  have e2 : soS ρ b e 12 = if 2 = ρ 0 then e else ρ 12 := v 2 (by omega)
  have e3 : soS ρ b e 13 = if 3 = ρ 0 then e else ρ 13 := v 3 (by omega)
  have e4 : soS ρ b e 14 = if 4 = ρ 0 then e else ρ 14 := v 4 (by omega)
  rw [show ens (soS ρ b e) = 255 * (soS ρ b e 10 + soS ρ b e 11 * 256 + soS ρ b e 12 * 65536 + soS ρ b e 13 * 16777216 + soS ρ b e 14 * 4294967296) from rfl]
  rcases (show ρ 0 = 0 ∨ ρ 0 = 1 ∨ ρ 0 = 2 ∨ ρ 0 = 3 ∨ ρ 0 = 4 by omega) with r | r | r | r | r
  · rw [if_pos (by omega)] at e0; rw [if_neg (by omega)] at e1; rw [if_neg (by omega)] at e2; rw [if_neg (by omega)] at e3; rw [if_neg (by omega)] at e4
    have z0 : ρ 10 = 0 := z 0 (by omega) (by omega)
    have z1 : ρ 11 = 0 := z 1 (by omega) (by omega)
    have z2 : ρ 12 = 0 := z 2 (by omega) (by omega)
    have z3 : ρ 13 = 0 := z 3 (by omega) (by omega)
    have z4 : ρ 14 = 0 := z 4 (by omega) (by omega)
    rw [e0, e1, e2, e3, e4, r]
    refine ⟨?_, ?_⟩
    · have q : (2 : Nat) ^ (8 * 0) = 1 := by decide
      rw [q]; unfold ens; omega
    · have q : (2 : Nat) ^ (8 * 0) = 1 := by decide
      rw [q]; unfold ens; omega
  · rw [if_neg (by omega)] at e0; rw [if_pos (by omega)] at e1; rw [if_neg (by omega)] at e2; rw [if_neg (by omega)] at e3; rw [if_neg (by omega)] at e4
    have z1 : ρ 11 = 0 := z 1 (by omega) (by omega)
    have z2 : ρ 12 = 0 := z 2 (by omega) (by omega)
    have z3 : ρ 13 = 0 := z 3 (by omega) (by omega)
    have z4 : ρ 14 = 0 := z 4 (by omega) (by omega)
    rw [e0, e1, e2, e3, e4, r]
    refine ⟨?_, ?_⟩
    · have q : (2 : Nat) ^ (8 * 1) = 256 := by decide
      rw [q]; unfold ens; omega
    · have q : (2 : Nat) ^ (8 * 1) = 256 := by decide
      rw [q]; unfold ens; omega
  · rw [if_neg (by omega)] at e0; rw [if_neg (by omega)] at e1; rw [if_pos (by omega)] at e2; rw [if_neg (by omega)] at e3; rw [if_neg (by omega)] at e4
    have z2 : ρ 12 = 0 := z 2 (by omega) (by omega)
    have z3 : ρ 13 = 0 := z 3 (by omega) (by omega)
    have z4 : ρ 14 = 0 := z 4 (by omega) (by omega)
    rw [e0, e1, e2, e3, e4, r]
    refine ⟨?_, ?_⟩
    · have q : (2 : Nat) ^ (8 * 2) = 65536 := by decide
      rw [q]; unfold ens; omega
    · have q : (2 : Nat) ^ (8 * 2) = 65536 := by decide
      rw [q]; unfold ens; omega
  · rw [if_neg (by omega)] at e0; rw [if_neg (by omega)] at e1; rw [if_neg (by omega)] at e2; rw [if_pos (by omega)] at e3; rw [if_neg (by omega)] at e4
    have z3 : ρ 13 = 0 := z 3 (by omega) (by omega)
    have z4 : ρ 14 = 0 := z 4 (by omega) (by omega)
    rw [e0, e1, e2, e3, e4, r]
    refine ⟨?_, ?_⟩
    · have q : (2 : Nat) ^ (8 * 3) = 16777216 := by decide
      rw [q]; unfold ens; omega
    · have q : (2 : Nat) ^ (8 * 3) = 16777216 := by decide
      rw [q]; unfold ens; omega
  · rw [if_neg (by omega)] at e0; rw [if_neg (by omega)] at e1; rw [if_neg (by omega)] at e2; rw [if_neg (by omega)] at e3; rw [if_pos (by omega)] at e4
    have z4 : ρ 14 = 0 := z 4 (by omega) (by omega)
    rw [e0, e1, e2, e3, e4, r]
    refine ⟨?_, ?_⟩
    · have q : (2 : Nat) ^ (8 * 4) = 4294967296 := by decide
      rw [q]; unfold ens; omega
    · have q : (2 : Nat) ^ (8 * 4) = 4294967296 := by decide
      rw [q]; unfold ens; omega
theorem RgC.sort1 {l : List Nat} (H : TgOk ρ nm) (hk : ρ 0 < 5) (R : RgC h 142 ρ nS nK nm) (n1 : h.1 143 (ρ 0) = nI (nmC l)) : RgC (sI h 142 0 (nI (ρ 0 + 1))) 142 (soS ρ 0 0) (soN ρ nS l) nK nm := by
  obtain ⟨⟨a1, a2, a3, a4, a5⟩, ⟨b1, b2, b3⟩, c, ⟨d1, d2⟩, e, ⟨f1, f2⟩, g⟩ := R
  have h3 := H.1.2.1
  have h8 := H.1.2.2.1
  have zz := H.2.2.1 (ρ 0) (by omega) hk
  have o : ∀ k, k ≠ 0 → soS ρ 0 0 k = ρ k := fun k hk0 => by
    by_cases q1 : k = 5 + ρ 0
    · rw [q1, soS_b, zz.1]
    · by_cases q2 : k = 10 + ρ 0
      · rw [q2, soS_e, zz.2.1]
      · exact soS_o hk0 q1 q2
  have i0 : ∀ c, c ≠ 142 → (sI h 142 0 (nI (ρ 0 + 1))).1 c = h.1 c := fun c hc => funext fun _ => sI_ne1 hc
  unfold RgC
  rw [soS_0, o 1 (by decide), o 2 (by decide), o 3 (by decide), o 4 (by decide), i0 (142 + 1) (by decide), i0 (142 + 2) (by decide), i0 (142 + 3) (by decide), i0 (142 + 5) (by decide), i0 (142 + 6) (by decide), i0 (142 + 7) (by decide), i0 (142 + 8) (by decide), i0 (142 + 9) (by decide), sI_nk1 (show (1 : Nat) ≠ 0 by decide), sI_nk1 (show (2 : Nat) ≠ 0 by decide), sI_nk1 (show (11 : Nat) ≠ 0 by decide), ens_u (fun j _ _ => o j (by omega)), idl_u (fun j _ _ => o j (by omega))]
  refine ⟨⟨sI_s, a2, a3, a4, a5⟩, ⟨fun i hi => ?_, b2, b3⟩, fun k k1 k2 => ?_, ⟨fun k hk => ?_, d2⟩, fun w hw => ?_, ⟨fun w hw => ?_, f2⟩, fun i hi => ?_⟩
  · unfold soN
    by_cases z : i = ρ 0
    · rw [if_pos z, z]; exact n1
    · rw [if_neg z]; exact b1 i (by omega)
  · rw [o _ (by omega)]; exact c k k1 k2
  · rw [ahd_u (fun j _ _ => o j (by omega)) hk]; exact d1 k hk
  · rw [o _ (by omega), o _ (by omega), o _ (by omega)]; exact e w hw
  · rw [rds_u (fun j _ _ => o j (by omega)) hw]; exact f1 w hw
  · rw [mk_u (fun j _ _ => o j (by omega)) hi]; exact g i hi
theorem RgC.sort2 {b e : Nat} {N : Nat → List Nat} (H : TgOk ρ nm) (hk : ρ 0 < 5) (R : RgC h 142 (soS ρ 0 0) N nK nm) (q : Same [142, 146] h h') (q1 : h'.1 = h.1) (q2 : h'.2.1 146 (ρ 0) = lN (ahd ρ (ρ 0) + 255 * b * 1099511627776)) (q3 : ∀ j, j ≠ ρ 0 → h'.2.1 146 j = h.2.1 146 j) (q4 : h'.2.1 142 7 = lN (ens ρ + 255 * e * 2 ^ (8 * ρ 0))) : RgC h' 142 (soS ρ b e) N nK nm := by
  obtain ⟨⟨a1, a2, a3, a4, a5⟩, ⟨b1, b2, b3⟩, c, ⟨d1, d2⟩, e', ⟨f1, f2⟩, g⟩ := R
  have h8 := H.1.2.2.1
  have o : ∀ k, (k < 5 ∨ 15 ≤ k) → soS ρ b e k = soS ρ 0 0 k := fun k hk0 => by
    by_cases q1 : k = 0
    · rw [q1, soS_0, soS_0]
    · rw [soS_o q1 (by omega) (by omega), soS_o q1 (by omega) (by omega)]
  have o2 : soS ρ 0 0 2 = ρ 2 := soS_o (by omega) (by omega) (by omega)
  unfold RgC
  rw [q1, o 0 (by omega), o 1 (by omega), o 2 (by omega), o 3 (by omega), o 4 (by omega), idl_u (fun j _ _ => o j (by omega))]
  refine ⟨⟨a1, a2, a3, a4, a5⟩, ⟨b1, b2, b3⟩, fun k k1 k2 => ?_, ⟨fun k k5 => ?_, ?_⟩, fun w hw => ?_, ⟨fun w hw => ?_, f2⟩, fun i hi => ?_⟩
  · rw [o _ (by omega)]; exact c k k1 k2
  · show h'.2.1 146 k = _
    by_cases z : k = ρ 0
    · rw [z, q2, (ahd_so H hk).1]
    · rw [q3 k z, (ahd_so H hk).2.2 k k5 z, ← (ahd_so (b := 0) (e := 0) H hk).2.2 k k5 z]; exact d1 k k5
  · rw [q4, (ens_so H hk).1]
  · rw [o _ (by omega), o _ (by omega), o _ (by omega)]; exact e' w hw
  · rw [rds_u (fun j _ _ => o j (by omega)) hw]; exact f1 w hw
  · rw [mk_u (fun j _ _ => o j (by omega)) hi]; exact g i hi
theorem RgM.sort {l : List Nat} {b e : Nat} (h0 : ρ 0 < 5) (R : RgM h (beS ρ b e) nS nK nm) (n1 : h.2.1 159 (16 + ρ 0) = lN (nmM l)) : RgM (sI h 158 0 (nI (ρ 0 + 1))) (soS ρ b e) (soN ρ nS l) nK nm := by
  obtain ⟨a1, a2, a3, a4⟩ := R
  have o1 : beS ρ b e 1 = ρ 1 := beS_o (by omega) (by omega)
  have o2 : beS ρ b e 2 = ρ 2 := beS_o (by omega) (by omega)
  have o0 : beS ρ b e 0 = ρ 0 := beS_o (by omega) (by omega)
  rw [o0] at a2
  refine ⟨fun k hk => ?_, fun i hi => ?_, a3, a4⟩
  · by_cases z : k = 0
    · rw [z, sI_s, soS_0]
    · rw [sI_nk1 z, show soS ρ b e k = beS ρ b e k from if_neg z]; exact a1 k hk
  · rw [soS_0] at hi
    unfold soN
    by_cases z : i = ρ 0
    · rw [if_pos z, z]; exact n1
    · rw [if_neg z]; exact a2 i (by omega)
theorem RgOk.sort {l : List Nat} {b e : Nat} (h0 : ρ 0 < 5) (hl : okNm l) (hb : b ≤ 1) (he : e ≤ 1) (R : RgOk ρ nS nK nm) : RgOk (soS ρ b e) (soN ρ nS l) nK nm := by
  obtain ⟨⟨⟨b1, b2, b3, b4⟩, c1, c2, c3, c4, c5, c6, c7⟩, d, e'⟩ := R
  have o : ∀ k, ((1 ≤ k ∧ k < 5) ∨ 15 ≤ k) → soS ρ b e k = ρ k := fun k hk => soS_o (by omega) (by omega) (by omega)
  have o1 := o 1 (by omega)
  have o2 := o 2 (by omega)
  refine ⟨⟨?_, fun k k1 k2 => ?_, fun k k1 k2 => ?_, fun w hw => ?_, fun k k1 k2 => ?_, fun w w1 w2 => ?_, fun i hi => ?_, fun k k1 k2 => ?_⟩, fun i hi => ?_, ?_⟩
  · rw [soS_0, o1, o2, o 3 (by omega), o 4 (by omega)]; exact ⟨by omega, b2, b3, b4⟩
  · by_cases z1 : k = 5 + ρ 0
    · rw [z1, soS_b]; exact hb
    · by_cases z2 : k = 10 + ρ 0
      · rw [z2, soS_e]; exact he
      · rw [soS_o (by omega) z1 z2]; exact c1 k k1 k2
  · rw [soS_0] at k1
    obtain ⟨z1, z2, z3, z4⟩ := c2 k (by omega) k2
    refine ⟨by rw [soS_o (by omega) (by omega) (by omega)]; exact z1, by rw [soS_o (by omega) (by omega) (by omega)]; exact z2, fun p hp => ⟨by rw [o _ (by omega)]; exact (z3 p hp).1, by rw [o _ (by omega)]; exact (z3 p hp).2⟩, fun w hw => by rw [o _ (by omega)]; exact z4 w hw⟩
  · rw [o2] at hw
    rw [o _ (by omega), o _ (by omega), o _ (by omega)]; exact c3 w hw
  · rw [o k (by omega)]; exact c4 k k1 k2
  · rw [o2] at w1
    exact ⟨by rw [o _ (by omega)]; exact (c5 w w1 w2).1, fun k hk => by rw [o _ (by omega)]; exact (c5 w w1 w2).2 k hk⟩
  · rw [o _ (by omega)]; exact c6 i hi
  · rw [o _ (by omega)]; exact c7 k k1 k2
  · rw [soS_0] at hi
    unfold soN
    by_cases z : i = ρ 0
    · rw [if_pos z]; exact hl
    · rw [if_neg z]; exact d i (by omega)
  · rw [o1]; exact e'
end UNGO
