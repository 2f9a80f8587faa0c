section T1
variable {tp : List Nat} {σ τ : Nat → Nat} {nm : Nat → List Nat} {K : Im} {fd : List Nat} {fl : Nat} {tn : Option Tn} {h h' : Hp}
/-- a loop that may end early; the heap changes -/
theorem loop2E {β : Type} {F : (Int32 → Hp → Option β) → Int32 → Hp → Option β} {k0 k1 : Hp → Option β} (p : Nat → Bool) (n : Nat) (P : Nat → Hp → Prop) (Q : Hp → Prop) (hx : ∀ self h, P n h → F self (nI n) h = k1 h) (hs : ∀ self i h, i < n → P i h → (p i = true ∧ ∃ h', F self (nI i) h = self (nI (i + 1)) h' ∧ P (i + 1) h') ∨ (p i = false ∧ ∃ h', F self (nI i) h = k0 h' ∧ Q h')) (h : Hp) (h0 : P 0 h) (hn : n ≤ 1000000) : ((∀ i, i < n → p i = true) ∧ ∃ h', itr2 F N0 (nI 0) h = k1 h' ∧ P n h') ∨ ((∃ i, i < n ∧ p i = false) ∧ ∃ h', itr2 F N0 (nI 0) h = k0 h' ∧ Q h') := by
  refine itr2_loop (F := F) (fun r => ((∀ i, i < n → p i = true) ∧ ∃ h', r = k1 h' ∧ P n h') ∨ ((∃ i, i < n ∧ p i = false) ∧ ∃ h', r = k0 h' ∧ Q h')) (fun d a h => ∃ i, i ≤ n ∧ d = n - i ∧ a = nI i ∧ P i h ∧ ∀ j, j < i → p j = true) ?_ n (nI 0) h N0 (by have := N0_big; omega) ⟨0, by omega, by omega, rfl, h0, fun j hj => by omega⟩
  intro d self a h ⟨i, h1, h2, h3, h4, h5⟩
  subst h3
  by_cases hi : i = n
  · subst hi
    exact Or.inl (Or.inl ⟨h5, h, hx self h h4, h4⟩)
  · rcases hs self i h (by omega) h4 with ⟨e0, h', e1, e2⟩ | ⟨e0, h', e1, e2⟩
    · exact Or.inr ⟨n - (i + 1), nI (i + 1), h', by omega, ⟨i + 1, by omega, rfl, rfl, e2, fun j hj => by
        by_cases hj2 : j = i
        · rw [hj2]; exact e0
        · exact h5 j (by omega)⟩, e1⟩
    · exact Or.inl (Or.inr ⟨⟨i, by omega, e0⟩, h', e1, e2⟩)
theorem getD_el {l : List Nat} {i : Nat} (hi : i < l.length) : l.getD i 0 = l[i] := by simp [List.getD_eq_getElem?_getD, hi]
theorem getD_P {l : List Nat} {i : Nat} {P : Nat → Prop} (hi : i < l.length) (hl : ∀ x ∈ l, P x) : P (l.getD i 0) := by
  rw [getD_el hi]
  exact hl _ (List.getElem_mem hi)
theorem mem_getD {l : List Nat} {P : Nat → Prop} (hl : ∀ i, i < l.length → P (l.getD i 0)) : ∀ x ∈ l, P x := fun x hx => by
  obtain ⟨i, hi, e⟩ := List.mem_iff_getElem.mp hx
  have := hl i hi
  rw [getD_el hi, e] at this
  exact this
theorem MR.scr (H : MR tp σ nm K fd fl tn h) {X : List Nat} (hs : Same X h h') (hX : X.all (fun q => !([155, 156, 157, 159, 160, 164, 165, 166, 176, 179, 180, 183, 184, 185].contains q)) = true) : MR tp σ nm K fd fl tn h' := by
  have k : ∀ q ∈ X, q ∉ [155, 156, 157, 159, 160, 164, 165, 166, 176, 179, 180, 183, 184, 185] := fun q hq => by
    have := List.all_eq_true.mp hX q hq
    simp only [Bool.not_eq_true', List.contains_eq_mem, decide_eq_false_iff_not] at this
    exact this
  have n155 : (155 : Nat) ∉ X := fun z => k 155 z (by decide)
  have s1 : ∀ a ∈ [156, 157, 164, 165, 166, 176, 179, 180, 183, 185], a ∈ [155, 156, 157, 159, 160, 164, 165, 166, 176, 179, 180, 183, 184, 185] := by decide
  have s2 : ∀ a ∈ [159, 160, 184], a ∈ [155, 156, 157, 159, 160, 164, 165, 166, 176, 179, 180, 183, 184, 185] := by decide
  exact H.keep ⟨fun a ha => (hs a (fun z => k a z (s1 a ha))).1, fun a ha => (hs a (fun z => k a z (s2 a ha))).2.1, fun j _ => by rw [(hs 155 n155).1], by rw [(hs 155 n155).2.1]⟩
theorem m_taken (x : Int32) (hM : MR tp σ nm K fd fl tn h) : ∃ h', f_X13_taken x h = some h' ∧ MR [] σ nm K fd fl tn h' ∧ Same [155] h h' ∧ h'.2 = h.2 ∧ h'.1 155 3 = nI tp.length ∧ h'.1 155 4 = nI 0 ∧ h'.1 155 5 = x ∧ lsB (h'.1 156) tp ∧ ∀ j, j ∉ [2, 3, 4, 5] → h'.1 155 j = h.1 155 j := by
  have M1 := hM.keep (h' := sI h 155 3 (h.1 155 2)) (EqM.ofI (by decide) (fun _ => by decide))
  have M2 : MR [] σ nm K fd fl tn (sI (sI h 155 3 (h.1 155 2)) 155 2 (nI 0)) := M1.tape (Same.ofI (by decide)) (fun j hj => sI_nk1 hj) sI_s (fun i hi => absurd hi (Nat.not_lt_zero _)) rfl
  have M3 := M2.keep (h' := sI (sI (sI h 155 3 (h.1 155 2)) 155 2 (nI 0)) 155 4 (nI 0)) (EqM.ofI (by decide) (fun _ => by decide))
  have M4 := M3.keep (h' := sI (sI (sI (sI h 155 3 (h.1 155 2)) 155 2 (nI 0)) 155 4 (nI 0)) 155 5 x) (EqM.ofI (by decide) (fun _ => by decide))
  refine ⟨_, ?_, M4, ((Same.ofI (by decide)).tr (Same.ofI (by decide))).tr ((Same.ofI (by decide)).tr (Same.ofI (by decide))), rfl, ?_, ?_, sI_s, ?_, ?_⟩
  · unfold f_X13_taken
    rw [lt_s0, lt_s0, lt_s0, lt_s0, li_0]
  · rw [sI_nk1 (by decide), sI_nk1 (by decide), sI_nk1 (by decide), sI_s]
    exact hM.1.1
  · rw [sI_nk1 (by decide), sI_s]
  · intro i hi
    rw [sI_ne1 (by decide), sI_ne1 (by decide), sI_ne1 (by decide), sI_ne1 (by decide)]
    exact hM.1.2 i hi
  · intro j hj
    simp only [List.mem_cons, List.not_mem_nil, or_false, not_or] at hj
    rw [sI_nk1 hj.2.2.2, sI_nk1 hj.2.2.1, sI_nk1 hj.1, sI_nk1 hj.2.1]
theorem CR.empty (hA : AbOk tp σ nm K fd fl tn) (H : CR tp σ nm K fd fl tn h) : CR [] σ nm K fd fl tn (sI h 2 1 (nI 0)) := CR.tape hA H (Same.ofI (by decide)) sI_s (fun i hi => absurd hi (Nat.not_lt_zero _))
theorem AbOk.empty (hA : AbOk tp σ nm K fd fl tn) : AbOk [] σ nm K fd fl tn := hA.tape (Nat.zero_le _) (fun x hx => by cases hx)
theorem m_octet {i : Nat} (hl : lsB (h.1 156) tp) (hi : i < tp.length) (ht : tp.length ≤ 940) (hb : ∀ x ∈ tp, x < 256) : f_X13_octet (nI i) h = some (nI (tp.getD i 0), h) := by
  have e := hl i hi
  have b : tp.getD i 0 < 256 := getD_P hi hb
  unfold f_X13_octet
  simp (disch := omega) only [li_0, li_1, li_2, li_3, li_4, li_5, li_6, li_7, li_8, li_9, li_10, li_12, li_13, li_14, li_15, li_16, li_20, li_24, li_25, li_31, li_32, li_40, li_48, li_54, li_56, li_64, li_72, li_97, li_99, li_100, li_112, li_122, li_144, li_145, li_155, li_157, li_200, li_216, li_255, li_256, li_432, li_437, li_438, li_462, li_463, li_713, li_900, li_940, lL_0, lL_1, lL_255, lL_1099511627776, neg_1, ltT, ltF, leT, leF, eqT, eqF, ltMT, ltMF, leMT, leMF, eqMF, eqMF', addM, inbT, clp, nI_add, subN, pk_mul, nzT, remN, shl1, bitN, bit0, bit1, lcE, lcLE, lcLT, LleT, LleF, LltT, LltF, LeqT, LeqF, ↓bndS, ↓bnvS, ↓lt_s1, bndS, bnvS, eq_self, ↓reduceIte, e, byteB]
/-- the numbers with another TEXT -/
def txS (σ : Nat → Nat) (l : List Nat) : Nat → Nat := fun k => if k = 437 then l.length else if 438 ≤ k ∧ k < 438 + l.length then l.getD (k - 438) 0 else σ k
theorem txS_n (l : List Nat) : txS σ l 437 = l.length := if_pos rfl
theorem txS_at {l : List Nat} {k : Nat} (hk : k < l.length) : txS σ l (438 + k) = l.getD k 0 := by
  unfold txS
  rw [if_neg (by omega), if_pos (by omega), show 438 + k - 438 = k by omega]
theorem txS_out {l : List Nat} (hl : l.length ≤ 24) {k : Nat} (hk : k < 437 ∨ 462 ≤ k) : txS σ l k = σ k := by
  unfold txS
  rw [if_neg (by omega), if_neg (by omega)]
theorem AbOk.text {l : List Nat} (hA : AbOk tp σ nm K fd fl tn) (hl : l.length ≤ 24) (hm : ∀ x ∈ l, x < σ 2) : AbOk tp (txS σ l) nm K fd fl tn := by
  have e2 : txS σ l 2 = σ 2 := txS_out hl (by omega)
  refine hA.sig (fun k hk => txS_out hl (by omega)) ⟨by rw [txS_n]; exact hl, fun k hk => ?_⟩ (by rw [txS_out hl (by omega)]; exact hA.2.1.2.2.1) (fun c hc => ?_)
  · rw [txS_n] at hk
    rw [show 437 + 1 + k = 438 + k by omega, txS_at hk, e2]
    exact getD_P hk hm
  · rw [txS_out hl (by omega)] at hc
    exact (hA.2.1.2.2.2 c hc).cong e2 (fun k hk => txS_out hl (by omega))
theorem CR.text (hA : AbOk tp σ nm K fd fl tn) (H : CR tp σ nm K fd fl tn h) (e : ∀ k, (k < 437 ∨ 462 ≤ k) → τ k = σ k) {X : List Nat} (hs : Same X h h') (hX : X.all (fun q => q == 18 || (q == 19 || (scrL.contains q && decide (q ≠ 123)))) = true) (h1 : h'.1 18 1 = nI (τ 437)) (h2 : ∀ k, k < τ 437 → h'.1 19 k = nI (τ (438 + k))) : CR tp τ nm K fd fl tn h' := by
  have k : ∀ q ∈ X, q = 18 ∨ q = 19 ∨ (q ∈ scrL ∧ q ≠ 123) := fun q hq => by
    have := List.all_eq_true.mp hX q hq
    simp only [Bool.or_eq_true, Bool.and_eq_true, beq_iff_eq, List.contains_eq_mem, decide_eq_true_eq] at this
    exact this
  have n : ∀ q, q ≠ 18 → q ≠ 19 → (q ∉ scrL ∨ q = 123) → q ∉ X := fun q a b c z => by
    rcases k q z with z1 | z1 | ⟨z1, z2⟩
    · exact a z1
    · exact b z1
    · rcases c with c | c
      · exact c z1
      · exact z2 c
  have key : ∀ x ∈ scrL, x < 6 ∨ 42 < x := by decide
  have c10 := hA.2.1.2.2.1
  have e462 : τ 462 = σ 462 := e 462 (by omega)
  refine H.sig hA (fun k hk => e k (by omega)) (fun a ha hsc h3 => ?_) ?_ h1 h2 ?_ (fun c hc => ?_)
  · have := hs a (n a (by omega) (by omega) (Or.inl hsc))
    exact ⟨by
      by_cases h6 : a = 6
      · rw [if_pos h6, h6]
      · rw [if_neg h6]; exact this.1, this.2.1⟩
  · rw [(hs 123 (n 123 (by decide) (by decide) (Or.inr rfl))).1]; exact H.2.2.2.2.2.2
  · rw [(hs 6 (n 6 (by decide) (by decide) (Or.inl (by decide)))).1, e462]; exact H.2.1.2.2.1
  · rw [e462] at hc
    have z1 : 21 + 2 * c ∉ scrL := fun z => by have := key _ z; omega
    have z2 : 22 + 2 * c ∉ scrL := fun z => by have := key _ z; omega
    have r := H.2.1.2.2.2 c hc
    have r24 := (hA.2.1.2.2.2 c hc).1
    rw [(hs (21 + 2 * c) (n _ (by omega) (by omega) (Or.inl z1))).1, (hs (22 + 2 * c) (n _ (by omega) (by omega) (Or.inl z2))).1, e (463 + 25 * c) (by omega)]
    rw [show 6 + 15 + 2 * c = 21 + 2 * c by omega, show 6 + 16 + 2 * c = 22 + 2 * c by omega] at r
    refine ⟨r.1, fun k hk => ?_⟩
    rw [e _ (by omega)]
    exact r.2 k hk
theorem m_keep {l : List Nat} (hs : ∀ k, k < 713 → h.1 157 k = nI (σ k)) (hl : l.length ≤ 24) (hf : lsI (h.1 163) l) : ∃ h', f_X13_keep 163 (nI l.length) h = some h' ∧ Same [157] h h' ∧ ∀ k, k < 713 → h'.1 157 k = nI (txS σ l k) := by
  obtain ⟨h2, eh2⟩ : ∃ q, q = sI h 157 437 (nI l.length) := ⟨_, rfl⟩
  obtain ⟨g, e, p1, p2⟩ := loop2f (F := F_X13_keep_11 163 (nI l.length) (fun h6 => some h6)) (k := fun h6 => some h6) 0 l.length (by omega) (fun i g => Same [157] h g ∧ ∀ k, k < 713 → g.1 157 k = nI (if k = 437 then l.length else if 438 ≤ k ∧ k < 438 + i then l.getD (k - 438) 0 else σ k)) (fun self g _ => by
      unfold F_X13_keep_11
      rw [if_pos (nI_le (Nat.le_refl _) (by omega))]) (fun self i g _ hi ⟨q1, q2⟩ => by
      have gf : g.1 163 i = nI (l.getD i 0) := by rw [(q1 163 (by decide)).1]; exact hf i hi
      have al : aln 163 = 24 := rfl
      refine ⟨sI g 157 (438 + i) (nI (l.getD i 0)), ?_, q1.tr (Same.ofI (by decide)), fun k hk => ?_⟩
      · unfold F_X13_keep_11
        simp (disch := omega) only [li_0, li_1, li_2, li_3, li_4, li_5, li_6, li_7, li_8, li_9, li_10, li_12, li_13, li_14, li_15, li_16, li_20, li_24, li_25, li_31, li_32, li_40, li_48, li_54, li_56, li_64, li_72, li_97, li_99, li_100, li_112, li_122, li_144, li_145, li_155, li_157, li_200, li_216, li_255, li_256, li_432, li_437, li_438, li_462, li_463, li_713, li_900, li_940, lL_0, lL_1, lL_255, lL_1099511627776, neg_1, ltT, ltF, leT, leF, eqT, eqF, ltMT, ltMF, leMT, leMF, eqMF, eqMF', addM, inbT, clp, nI_add, subN, pk_mul, nzT, remN, shl1, bitN, bit0, bit1, lcE, lcLE, lcLT, LleT, LleF, LltT, LltF, LeqT, LeqF, ↓bndS, ↓bnvS, ↓lt_s1, bndS, bnvS, eq_self, ↓reduceIte, al, gf]
      · by_cases hk2 : k = 438 + i
        · subst hk2
          rw [sI_s, if_neg (by omega), if_pos (by omega), show 438 + i - 438 = i by omega]
        · rw [sI_nk1 hk2, q2 k hk]
          by_cases hk3 : k = 437
          · rw [if_pos hk3, if_pos hk3]
          · rw [if_neg hk3, if_neg hk3]
            by_cases hk4 : 438 ≤ k ∧ k < 438 + i
            · rw [if_pos hk4, if_pos (by omega)]
            · rw [if_neg hk4, if_neg (by omega)]) h2 ⟨by rw [eh2]; exact Same.ofI (by decide), fun k hk => by
      by_cases hk3 : k = 437
      · subst hk3
        rw [eh2, sI_s, if_pos rfl]
      · rw [eh2, sI_nk1 hk3, if_neg hk3, if_neg (by omega)]
        exact hs k hk⟩ (by omega)
  refine ⟨g, ?_, p1, fun k hk => p2 k hk⟩
  unfold f_X13_keep
  rw [lt_s0, li_437, clp (by omega), ← eh2, li_0, e]
theorem c_sayT {t n w : Nat} (h2 : h.1 t 2 = nI n) (hw : w < n) (hn : n < 1000) : f_X10_hasSaying t (nI w) h = some (nI 1, h) := by
  unfold f_X10_hasSaying
  simp (disch := omega) only [li_0, li_1, li_2, li_3, li_4, li_5, li_6, li_7, li_8, li_9, li_10, li_12, li_13, li_14, li_15, li_16, li_20, li_24, li_25, li_31, li_32, li_40, li_48, li_54, li_56, li_64, li_72, li_97, li_99, li_100, li_112, li_122, li_144, li_145, li_155, li_157, li_200, li_216, li_255, li_256, li_432, li_437, li_438, li_462, li_463, li_713, li_900, li_940, lL_0, lL_1, lL_255, lL_1099511627776, neg_1, ltT, ltF, leT, leF, eqT, eqF, ltMT, ltMF, leMT, leMF, eqMF, eqMF', addM, inbT, clp, nI_add, subN, pk_mul, nzT, remN, shl1, bitN, bit0, bit1, lcE, lcLE, lcLT, LleT, LleF, LltT, LltF, LeqT, LeqF, ↓bndS, ↓bnvS, ↓lt_s1, bndS, bnvS, eq_self, ↓reduceIte, h2]
theorem c_sayF {t n w : Nat} (h2 : h.1 t 2 = nI n) (hw : n ≤ w) (hw2 : w < 2147483648) (hn : n < 1000) : f_X10_hasSaying t (nI w) h = some (nI 0, h) := by
  unfold f_X10_hasSaying
  simp (disch := omega) only [li_0, li_1, li_2, li_3, li_4, li_5, li_6, li_7, li_8, li_9, li_10, li_12, li_13, li_14, li_15, li_16, li_20, li_24, li_25, li_31, li_32, li_40, li_48, li_54, li_56, li_64, li_72, li_97, li_99, li_100, li_112, li_122, li_144, li_145, li_155, li_157, li_200, li_216, li_255, li_256, li_432, li_437, li_438, li_462, li_463, li_713, li_900, li_940, lL_0, lL_1, lL_255, lL_1099511627776, neg_1, ltT, ltF, leT, leF, eqT, eqF, ltMT, ltMF, leMT, leMF, eqMF, eqMF', addM, inbT, clp, nI_add, subN, pk_mul, nzT, remN, shl1, bitN, bit0, bit1, lcE, lcLE, lcLT, LleT, LleF, LltT, LltF, LeqT, LeqF, ↓bndS, ↓bnvS, ↓lt_s1, bndS, bnvS, eq_self, ↓reduceIte, h2]
theorem m_sayN {w n : Nat} (h2 : h.1 157 2 = nI n) (hw : n ≤ w) (hw2 : w < 2147483648) (hn : n < 1000) : f_X13_isSaying (nI w) h = some (nI 0, h) := m_sayF h2 (fun v hv z => by
  have := (nI_eq hw2 (by omega)).mp z
  omega) hn
/-- the tape's bytes are SAYINGS, so many at most -/
def okR (σ : Nat → Nat) (tp : List Nat) (m : Nat) : Prop := tp.length ≤ m ∧ ∀ i, i < tp.length → tp.getD i 0 < σ 2
theorem c_rowFromTape {m : Nat} (hA : AbOk tp σ nm K fd fl tn) (hC : CR tp σ nm K fd fl tn h) (hm : m ≤ 24) : ∃ h', ((f_X12_rowFromTape (nI m) h = some (nI 1, h') ∧ okR σ tp m ∧ h'.1 153 1 = nI tp.length ∧ lsI (h'.1 154) tp) ∨ (f_X12_rowFromTape (nI m) h = some (nI 0, h') ∧ ¬ okR σ tp m)) ∧ CR [] σ nm K fd fl tn h' ∧ Same [2, 153, 154] h h' := by
  have ht := hA.1.1
  have hb := hA.1.2
  have h8 := hA.2.1.1.1.2.2.1
  obtain ⟨c1, c2⟩ := hC.1
  obtain ⟨h3, eh3⟩ : ∃ q, q = sI (sI h 2 1 (nI 0)) 153 1 (nI 0) := ⟨_, rfl⟩
  have C3 : CR [] σ nm K fd fl tn h3 := by rw [eh3]; exact (CR.empty hA hC).scr2 hA.empty (Same.ofI (X := [153]) (by decide)) (by decide)
  have s3 : Same [2, 153, 154] h h3 := by rw [eh3]; exact (Same.ofI (by decide)).tr (Same.ofI (by decide))
  have t2 : h3.1 7 2 = nI (σ 2) := C3.2.1.1.1.2.2.1
  have t3 : ∀ i, i < tp.length → h3.1 3 i = nI (tp.getD i 0) := fun i hi => by rw [(s3 3 (by decide)).1]; exact c2 i hi
  have e0 : f_X12_rowFromTape (nI m) h = (if nI tp.length ≤ nI m then itr2 (F_X12_rowFromTape_33 (nI tp.length) (fun h12 => some (nI 0, h12)) (fun h13 => some (nI 1, h13))) N0 (nI 0) h3 else some (nI 0, h3)) := by
    unfold f_X12_rowFromTape
    rw [lt_s0, lt_s0, lt_s0, c1, li_0, li_1, ← eh3]
  have mo : ∀ g, Same [153, 154] h3 g → CR [] σ nm K fd fl tn g ∧ Same [2, 153, 154] h g := fun g hg => ⟨C3.scr2 hA.empty hg (by decide), s3.tr (hg.mono (fun q hq => by simp only [List.mem_cons, List.not_mem_nil, or_false] at hq ⊢; omega))⟩
  by_cases hle : tp.length ≤ m
  · have L := loop2E (F := F_X12_rowFromTape_33 (nI tp.length) (fun h12 => some (nI 0, h12)) (fun h13 => some (nI 1, h13))) (k0 := fun h12 => some (nI 0, h12)) (k1 := fun h13 => some (nI 1, h13)) (fun i => decide (tp.getD i 0 < σ 2)) tp.length (fun i g => g.1 153 1 = nI i ∧ (∀ j, j < i → g.1 154 j = nI (tp.getD j 0)) ∧ Same [153, 154] h3 g) (fun g => Same [153, 154] h3 g) (fun self g _ => by
        unfold F_X12_rowFromTape_33
        simp (disch := omega) only [li_0, li_1, li_2, li_3, li_4, li_5, li_6, li_7, li_8, li_9, li_10, li_12, li_13, li_14, li_15, li_16, li_20, li_24, li_25, li_31, li_32, li_40, li_48, li_54, li_56, li_64, li_72, li_97, li_99, li_100, li_112, li_122, li_144, li_145, li_155, li_157, li_200, li_216, li_255, li_256, li_432, li_437, li_438, li_462, li_463, li_713, li_900, li_940, lL_0, lL_1, lL_255, lL_1099511627776, neg_1, ltT, ltF, leT, leF, eqT, eqF, ltMT, ltMF, leMT, leMF, eqMF, eqMF', addM, inbT, clp, nI_add, subN, pk_mul, nzT, remN, shl1, bitN, bit0, bit1, lcE, lcLE, lcLT, LleT, LleF, LltT, LltF, LeqT, LeqF, ↓bndS, ↓bnvS, ↓lt_s1, bndS, bnvS, eq_self, ↓reduceIte]) (fun self i g hi ⟨q1, q2, q3⟩ => by
        have g3 : g.1 3 i = nI (tp.getD i 0) := by rw [(q3 3 (by decide)).1]; exact t3 i hi
        have g2 : g.1 7 2 = nI (σ 2) := by rw [(q3 7 (by decide)).1]; exact t2
        have b : tp.getD i 0 < 256 := getD_P hi hb
        by_cases hw : tp.getD i 0 < σ 2
        · have s1 := c_sayT g2 hw (by omega)
          have rp := row_put (r := 153) (h := g) (v := nI (tp.getD i 0)) q1 (show i < 24 by omega) (by decide)
          refine Or.inl ⟨decide_eq_true hw, _, ?_, sI_s, fun j hj => ?_, q3.tr ((Same.ofI (a := 154) (k := i) (v := nI (tp.getD i 0)) (by decide)).tr (Same.ofI (a := 153) (k := 1) (v := nI (i + 1)) (by decide)))⟩
          · unfold F_X12_rowFromTape_33
            simp (disch := omega) only [li_0, li_1, li_2, li_3, li_4, li_5, li_6, li_7, li_8, li_9, li_10, li_12, li_13, li_14, li_15, li_16, li_20, li_24, li_25, li_31, li_32, li_40, li_48, li_54, li_56, li_64, li_72, li_97, li_99, li_100, li_112, li_122, li_144, li_145, li_155, li_157, li_200, li_216, li_255, li_256, li_432, li_437, li_438, li_462, li_463, li_713, li_900, li_940, lL_0, lL_1, lL_255, lL_1099511627776, neg_1, ltT, ltF, leT, leF, eqT, eqF, ltMT, ltMF, leMT, leMF, eqMF, eqMF', addM, inbT, clp, nI_add, subN, pk_mul, nzT, remN, shl1, bitN, bit0, bit1, lcE, lcLE, lcLT, LleT, LleF, LltT, LltF, LeqT, LeqF, ↓bndS, ↓bnvS, ↓lt_s1, bndS, bnvS, eq_self, ↓reduceIte, g3, s1, rp]
          · rw [sI_ne1 (by decide)]
            by_cases hj2 : j = i
            · subst hj2
              rw [sI_s]
            · rw [sI_nk1 hj2]
              exact q2 j (by omega)
        · have s1 := c_sayF (w := tp.getD i 0) g2 (by omega) (by omega) (by omega)
          refine Or.inr ⟨decide_eq_false hw, g, ?_, q3⟩
          unfold F_X12_rowFromTape_33
          simp (disch := omega) only [li_0, li_1, li_2, li_3, li_4, li_5, li_6, li_7, li_8, li_9, li_10, li_12, li_13, li_14, li_15, li_16, li_20, li_24, li_25, li_31, li_32, li_40, li_48, li_54, li_56, li_64, li_72, li_97, li_99, li_100, li_112, li_122, li_144, li_145, li_155, li_157, li_200, li_216, li_255, li_256, li_432, li_437, li_438, li_462, li_463, li_713, li_900, li_940, lL_0, lL_1, lL_255, lL_1099511627776, neg_1, ltT, ltF, leT, leF, eqT, eqF, ltMT, ltMF, leMT, leMF, eqMF, eqMF', addM, inbT, clp, nI_add, subN, pk_mul, nzT, remN, shl1, bitN, bit0, bit1, lcE, lcLE, lcLT, LleT, LleF, LltT, LltF, LeqT, LeqF, ↓bndS, ↓bnvS, ↓lt_s1, bndS, bnvS, eq_self, ↓reduceIte, g3, s1]) h3 ⟨by rw [eh3, sI_s], fun j hj => by omega, Same.rf⟩ (by omega)
    rw [e0, if_pos (nI_le hle (by omega))]
    rcases L with ⟨a1, g, a2, a3, a4, a5⟩ | ⟨⟨i, a1, a1'⟩, g, a2, a3⟩
    · exact ⟨g, Or.inl ⟨a2, ⟨hle, fun i hi => of_decide_eq_true (a1 i hi)⟩, a3, a4⟩, mo g a5⟩
    · exact ⟨g, Or.inr ⟨a2, fun z => by
        exact absurd (z.2 i a1) (of_decide_eq_false a1')⟩, mo g a3⟩
  · rw [e0, if_neg (nI_ge (by omega) (by omega))]
    exact ⟨h3, Or.inr ⟨rfl, fun z => hle z.1⟩, mo h3 Same.rf⟩
theorem st_lay (hI : Inv h) : ∃ v h1 h2, f_X12_lay h = some (v, h1) ∧ f_X13_lay h1 = some (v, h2) ∧ Inv h2 := by
  obtain ⟨tp, σ, nm, K, fd, fl, tn, hA, hC, hM⟩ := hI
  have ht := hA.1.1
  have hb := hA.1.2
  have h8 := hA.2.1.1.1.2.2.1
  obtain ⟨g, cr, C1, S1⟩ := c_rowFromTape (m := 24) hA hC (by omega)
  -- the reference, from a heap whose upper cells are h's
  have mref : ∀ q : Hp, Hi h q → (okR σ tp 24 → ∃ h2, f_X13_lay q = some (nI tp.length, h2) ∧ MR [] (txS σ tp) nm K fd fl tn h2 ∧ Lo q h2) ∧ (¬ okR σ tp 24 → ∃ h2, f_X13_lay q = some (-1, h2) ∧ MR [] σ nm K fd fl tn h2 ∧ Lo q h2) := by
    intro q hq
    have M1 := (hM.hi hq).keep (th_Eq 0)
    obtain ⟨h2, e2, M2, s2, -, r3, r4, r5, r6, r7⟩ := m_taken 940 M1
    have L2 : Lo q h2 := (th_Lo 0).tr (s2.lo (by decide))
    have m2 : h2.1 157 2 = nI (σ 2) := M2.2.1 2 (by omega)
    have e0 : f_X13_lay q = (if nI tp.length ≤ nI 24 then itr2 (F_X13_lay_25 (fun h13 => some (-1, h13)) (fun h14 => bnv (f_X13_keep 163 (h14.1 155 3) h14) fun h15 => some (h15.1 155 3, h15))) N0 (nI 0) h2 else some (-1, h2)) := by
      unfold f_X13_lay
      rw [lt_s0, e2, bnvS, r3, li_24, li_0]
    by_cases hle : tp.length ≤ 24
    · have L := loop2E (F := F_X13_lay_25 (fun h13 => some (-1, h13)) (fun h14 => bnv (f_X13_keep 163 (h14.1 155 3) h14) fun h15 => some (h15.1 155 3, h15))) (k0 := fun h13 => some (-1, h13)) (k1 := fun h14 => bnv (f_X13_keep 163 (h14.1 155 3) h14) fun h15 => some (h15.1 155 3, h15)) (fun i => decide (tp.getD i 0 < σ 2)) tp.length (fun i g => (∀ j, j < i → g.1 163 j = nI (tp.getD j 0)) ∧ Same [163] h2 g) (fun g => Same [163] h2 g) (fun self g ⟨_, q3⟩ => by
          have g3 : g.1 155 3 = nI tp.length := by rw [(q3 155 (by decide)).1]; exact r3
          unfold F_X13_lay_25
          exact if_pos (by rw [g3]; exact nI_le (Nat.le_refl _) (by omega))) (fun self i g hi ⟨q2, q3⟩ => by
          have g3 : g.1 155 3 = nI tp.length := by rw [(q3 155 (by decide)).1]; exact r3
          have oc := m_octet (h := g) (i := i) (by rw [(q3 156 (by decide)).1]; exact r6) hi ht hb
          have b : tp.getD i 0 < 256 := getD_P hi hb
          have g2 : (sI g 163 i (nI (tp.getD i 0))).1 157 2 = nI (σ 2) := by rw [sI_ne1 (by decide), (q3 157 (by decide)).1]; exact m2
          have g4 : (sI g 163 i (nI (tp.getD i 0))).1 163 i = nI (tp.getD i 0) := sI_s
          by_cases hw : tp.getD i 0 < σ 2
          · have s1 := m_sayT g2 hw (by omega)
            refine Or.inl ⟨decide_eq_true hw, sI g 163 i (nI (tp.getD i 0)), ?_, fun j hj => ?_, q3.tr (Same.ofI (by decide))⟩
            · unfold F_X13_lay_25
              simp (disch := omega) only [li_0, li_1, li_2, li_3, li_4, li_5, li_6, li_7, li_8, li_9, li_10, li_12, li_13, li_14, li_15, li_16, li_20, li_24, li_25, li_31, li_32, li_40, li_48, li_54, li_56, li_64, li_72, li_97, li_99, li_100, li_112, li_122, li_144, li_145, li_155, li_157, li_200, li_216, li_255, li_256, li_432, li_437, li_438, li_462, li_463, li_713, li_900, li_940, lL_0, lL_1, lL_255, lL_1099511627776, neg_1, ltT, ltF, leT, leF, eqT, eqF, ltMT, ltMF, leMT, leMF, eqMF, eqMF', addM, inbT, clp, nI_add, subN, pk_mul, nzT, remN, shl1, bitN, bit0, bit1, lcE, lcLE, lcLT, LleT, LleF, LltT, LltF, LeqT, LeqF, ↓bndS, ↓bnvS, ↓lt_s1, bndS, bnvS, eq_self, ↓reduceIte, g3, oc, g4, s1]
            · by_cases hj2 : j = i
              · subst hj2
                rw [sI_s]
              · rw [sI_nk1 hj2]
                exact q2 j (by omega)
          · have s1 := m_sayN (w := tp.getD i 0) g2 (by omega) (by omega) (by omega)
            refine Or.inr ⟨decide_eq_false hw, sI g 163 i (nI (tp.getD i 0)), ?_, q3.tr (Same.ofI (by decide))⟩
            unfold F_X13_lay_25
            simp (disch := omega) only [li_0, li_1, li_2, li_3, li_4, li_5, li_6, li_7, li_8, li_9, li_10, li_12, li_13, li_14, li_15, li_16, li_20, li_24, li_25, li_31, li_32, li_40, li_48, li_54, li_56, li_64, li_72, li_97, li_99, li_100, li_112, li_122, li_144, li_145, li_155, li_157, li_200, li_216, li_255, li_256, li_432, li_437, li_438, li_462, li_463, li_713, li_900, li_940, lL_0, lL_1, lL_255, lL_1099511627776, neg_1, ltT, ltF, leT, leF, eqT, eqF, ltMT, ltMF, leMT, leMF, eqMF, eqMF', addM, inbT, clp, nI_add, subN, pk_mul, nzT, remN, shl1, bitN, bit0, bit1, lcE, lcLE, lcLT, LleT, LleF, LltT, LltF, LeqT, LeqF, ↓bndS, ↓bnvS, ↓lt_s1, bndS, bnvS, eq_self, ↓reduceIte, g3, oc, g4, s1]) h2 ⟨fun j hj => by omega, Same.rf⟩ (by omega)
      rw [e0, if_pos (nI_le hle (by omega))]
      rcases L with ⟨a1, g, a2, a3, a4⟩ | ⟨⟨i, a1, a1'⟩, g, a2, a3⟩
      · refine ⟨fun _ => ?_, fun z => absurd (show okR σ tp 24 from ⟨hle, fun i hi => of_decide_eq_true (a1 i hi)⟩) z⟩
        have Mg := M2.scr a4 (by decide)
        have g3 : g.1 155 3 = nI tp.length := by rw [(a4 155 (by decide)).1]; exact r3
        obtain ⟨h3, e3, s3, m3⟩ := m_keep (l := tp) Mg.2.1 hle a3
        refine ⟨h3, ?_, Mg.sig (fun k hk => txS_out hle (by omega)) s3 m3, L2.tr ((a4.lo (by decide)).tr (s3.lo (by decide)))⟩
        rw [a2, g3, e3, bnvS, (s3 155 (by decide)).1, g3]
      · refine ⟨fun z => ?_, fun _ => ⟨g, a2, M2.scr a3 (by decide), L2.tr (a3.lo (by decide))⟩⟩
        exact absurd (z.2 i a1) (of_decide_eq_false a1')
    · rw [e0, if_neg (nI_ge (by omega) (by omega))]
      exact ⟨fun z => absurd z.1 hle, fun _ => ⟨h2, rfl, M2, L2⟩⟩
  have hi1 : Hi h g := S1.hi (by decide)
  rcases cr with ⟨c1, c2, c3, c4⟩ | ⟨c1, c2⟩
  · have rc := row_copy (d := 18) (s := 153) (n := tp.length) (h := g) c3 (show _ ≤ 24 from c2.1) (show _ ≤ 24 from c2.1) (by decide)
    obtain ⟨g2, eg2⟩ : ∃ q, q = sI (cI g (153 + 1) 0 (18 + 1) 0 tp.length) 18 1 (nI tp.length) := ⟨_, rfl⟩
    have s2 : Same [18, 19] g g2 := by rw [eg2]; exact (Same.ofCI (by decide)).tr (Same.ofI (by decide))
    have mm : ∀ x ∈ tp, x < σ 2 := mem_getD c2.2
    have A2 := hA.empty.text c2.1 mm
    have C2 : CR [] (txS σ tp) nm K fd fl tn g2 := C1.text hA.empty (fun k hk => txS_out c2.1 hk) s2 (by decide) (by rw [eg2, sI_s, txS_n]) (fun k hk => by
      rw [txS_n] at hk
      rw [eg2, sI_ne1 (by decide), show (19 : Nat) = 18 + 1 from rfl, cI_at, pk_cpy_in (by omega) (by omega), show 0 + (k - 0) = k by omega, txS_at hk]
      exact c4 k hk)
    obtain ⟨h2, e2, M2, L2⟩ := (mref g2 (hi1.tr (s2.hi (by decide)))).1 c2
    refine ⟨nI tp.length, g2, h2, ?_, e2, [], txS σ tp, nm, K, fd, fl, tn, A2, C2.lo A2 L2, M2⟩
    unfold f_X12_lay
    rw [li_24, c1, bndS, if_neg (by decide), rc, bnvS, ← eg2, show g2.1 18 1 = nI tp.length by rw [eg2, sI_s]]
  · obtain ⟨h2, e2, M2, L2⟩ := (mref g hi1).2 c2
    refine ⟨-1, g, h2, ?_, e2, [], σ, nm, K, fd, fl, tn, hA.empty, C1.lo hA.empty L2, M2⟩
    unfold f_X12_lay
    rw [li_24, c1, bndS, if_pos (by decide)]
/-! TAKE -/
def tkS (σ : Nat → Nat) (c : Nat) : Nat → Nat := fun k => if 437 ≤ k ∧ k < 462 then σ (463 + 25 * c + (k - 437)) else σ k
theorem st_take (x : Int32) (hI : Inv h) : ∃ v h1 h2, f_X12_take x h = some (v, h1) ∧ f_X13_take x h1 = some (v, h2) ∧ Inv h2 := by
  obtain ⟨tp, σ, nm, K, fd, fl, tn, hA, hC, hM⟩ := hI
  have hS := hA.2.1
  have c10 := hS.2.2.1
  have t6 : h.1 6 3 = nI (σ 462) := hC.2.1.2.2.1
  rcases m_isIn0 x (n := σ 462) (sI h 155 0 0) (by omega) with ⟨e, q⟩ | ⟨c, q1, rfl, e⟩
  · have M1 := hM.keep (th_Eq 0)
    refine ⟨-1, h, sI h 155 0 0, ?_, ?_, tp, σ, nm, K, fd, fl, tn, hA, hC.lo hA (th_Lo 0), M1⟩
    · unfold f_X12_take
      by_cases h1 : x < 0
      · rw [if_pos h1]
      · rw [if_neg h1, if_neg]
        intro z
        rw [t6] at z
        rcases pk_ix x (n := σ 462) (by omega) with h2 | h2 | ⟨j, h2, h3⟩
        · exact h1 h2
        · exact absurd z (by rw [Int32.not_lt]; exact h2)
        · exact q j h2 h3
    · unfold f_X13_take
      rw [lt_s0, li_462, clp (by omega), M1.2.1 462 (by omega), e, bndS, if_pos rfl]
  · have hr := hS.2.2.2 c q1
    have cr := hC.2.1.2.2.2 c q1
    have al : aln (20 + 1 + 2 * c + 1) = 24 := aln_cl ⟨c, by omega⟩
    have tin : ∀ k, k < 25 → tkS σ c (437 + k) = σ (463 + 25 * c + k) := fun k hk => by
      unfold tkS
      rw [if_pos (by omega), show 437 + k - 437 = k by omega]
    have tout : ∀ k, (k < 437 ∨ 462 ≤ k) → tkS σ c k = σ k := fun k hk => by
      unfold tkS
      rw [if_neg (by omega)]
    have t0 : tkS σ c 437 = σ (463 + 25 * c) := tin 0 (by omega)
    have rc := row_copy (d := 18) (s := 20 + 1 + 2 * c) (n := σ (463 + 25 * c)) (h := h) (by rw [show 20 + 1 + 2 * c = 6 + 15 + 2 * c by omega]; exact cr.1) (show _ ≤ 24 from hr.1) (by rw [al]; exact hr.1) (by decide)
    obtain ⟨g, eg⟩ : ∃ q, q = sI (cI h (20 + 1 + 2 * c + 1) 0 (18 + 1) 0 (σ (463 + 25 * c))) 18 1 (nI (σ (463 + 25 * c))) := ⟨_, rfl⟩
    have s2 : Same [18, 19] h g := by rw [eg]; exact (Same.ofCI (by decide)).tr (Same.ofI (by decide))
    have A2 : AbOk tp (tkS σ c) nm K fd fl tn := hA.sig (fun k hk => tout k (by omega)) (hr.cong (tout 2 (by omega)) tin) (by rw [tout 462 (by omega)]; exact c10) (fun d hd => by
      rw [tout 462 (by omega)] at hd
      exact (hS.2.2.2 d hd).cong (tout 2 (by omega)) (fun k hk => tout _ (by omega)))
    have C2 : CR tp (tkS σ c) nm K fd fl tn g := hC.text hA tout s2 (by decide) (by rw [eg, sI_s, t0]) (fun k hk => by
      rw [t0] at hk
      have := hr.1
      rw [eg, sI_ne1 (by decide), show (19 : Nat) = 18 + 1 from rfl, cI_at, pk_cpy_in (by omega) (by omega), show 0 + (k - 0) = k by omega, show 438 + k = 437 + (1 + k) by omega, tin (1 + k) (by omega), show 463 + 25 * c + (1 + k) = 464 + 25 * c + k by omega, show 20 + 1 + 2 * c + 1 = 6 + 16 + 2 * c by omega]
      exact cr.2 k hk)
    have M1 : MR tp σ nm K fd fl tn (sI g 155 0 0) := (hM.hi (s2.hi (by decide))).keep (th_Eq 0)
    obtain ⟨h2, e2, p1, p2⟩ := loop2f (F := F_X13_take_27 (nI c) (fun h9 => some (h9.1 157 ((437 : Int32).toNatClampNeg), h9))) (k := fun h9 => some (h9.1 157 ((437 : Int32).toNatClampNeg), h9)) 0 25 (by omega) (fun i g2 => Same [157] (sI g 155 0 0) g2 ∧ ∀ k, k < 713 → g2.1 157 k = nI (if 437 ≤ k ∧ k < 437 + i then σ (463 + 25 * c + (k - 437)) else σ k)) (fun self g2 _ => by
        unfold F_X13_take_27
        exact if_pos (by decide)) (fun self i g2 _ hi ⟨w1, w2⟩ => by
        have w3 := w2 (463 + 25 * c + i) (by omega)
        rw [if_neg (by omega)] at w3
        refine ⟨sI g2 157 (437 + i) (nI (σ (463 + 25 * c + i))), ?_, w1.tr (Same.ofI (by decide)), fun k hk => ?_⟩
        · unfold F_X13_take_27
          simp (disch := omega) only [li_0, li_1, li_2, li_3, li_4, li_5, li_6, li_7, li_8, li_9, li_10, li_12, li_13, li_14, li_15, li_16, li_20, li_24, li_25, li_31, li_32, li_40, li_48, li_54, li_56, li_64, li_72, li_97, li_99, li_100, li_112, li_122, li_144, li_145, li_155, li_157, li_200, li_216, li_255, li_256, li_432, li_437, li_438, li_462, li_463, li_713, li_900, li_940, lL_0, lL_1, lL_255, lL_1099511627776, neg_1, ltT, ltF, leT, leF, eqT, eqF, ltMT, ltMF, leMT, leMF, eqMF, eqMF', addM, inbT, clp, nI_add, subN, pk_mul, nzT, remN, shl1, bitN, bit0, bit1, lcE, lcLE, lcLT, LleT, LleF, LltT, LltF, LeqT, LeqF, ↓bndS, ↓bnvS, ↓lt_s1, bndS, bnvS, eq_self, ↓reduceIte, w3]
        · by_cases hk2 : k = 437 + i
          · subst hk2
            rw [sI_s, if_pos (by omega), show 437 + i - 437 = i by omega]
          · rw [sI_nk1 hk2, w2 k hk]
            by_cases hk4 : 437 ≤ k ∧ k < 437 + i
            · rw [if_pos hk4, if_pos (by omega)]
            · rw [if_neg hk4, if_neg (by omega)]) (sI g 155 0 0) ⟨Same.rf, fun k hk => by rw [if_neg (by omega)]; exact M1.2.1 k hk⟩ (by omega)
    have M2 : MR tp (tkS σ c) nm K fd fl tn h2 := M1.sig (fun k hk => tout k (by omega)) p1 (fun k hk => p2 k hk)
    refine ⟨nI (σ (463 + 25 * c)), g, h2, ?_, ?_, tp, tkS σ c, nm, K, fd, fl, tn, A2, C2.lo A2 ((th_Lo 0).tr (p1.lo (by decide))), M2⟩
    · unfold f_X12_take
      rw [if_neg (nI_pos (by omega)), t6, if_pos (nI_lt q1 (by omega)), if_pos (inb_nI (by omega) (by decide)), nI_clamp (by omega), rc, bnvS, ← eg, show g.1 18 1 = nI (σ (463 + 25 * c)) by rw [eg, sI_s]]
    · have e' : f_X13_isIn (nI c) 0 (nI (σ 462) - 1) (sI g 155 0 0) = some (1, sI g 155 0 0) := m_inT rfl rfl q1 (by omega)
      unfold f_X13_take
      rw [lt_s0, li_462, clp (by omega), M1.2.1 462 (by omega), e', bndS, if_neg (by decide), li_0]
      rw [li_0] at e2
      rw [e2, li_437, clp (by omega), M2.2.1 437 (by omega), t0]
end T1
