section C1
variable {tp : List Nat} {σ : Nat → Nat} {nm : Nat → List Nat} {K : Im} {fd : List Nat} {fl : Nat} {tn : Option Tn} {h h' : Hp}
theorem loop2f {β : Type} {F : (Int32 → Hp → Option β) → Int32 → Hp → Option β} {k : Hp → Option β} (s e : Nat) (hse : s ≤ e) (P : Nat → Hp → Prop) (hx : ∀ self h, P e h → F self (nI e) h = k h) (hs : ∀ self i h, s ≤ i → i < e → P i h → ∃ h', F self (nI i) h = self (nI (i + 1)) h' ∧ P (i + 1) h') (h : Hp) (h0 : P s h) (hn : e ≤ 1000000) : ∃ h', itr2 F N0 (nI s) h = k h' ∧ P e h' := by
  refine itr2_loop (F := F) (fun r => ∃ h', r = k h' ∧ P e h') (fun d a h => ∃ i, s ≤ i ∧ i ≤ e ∧ d = e - i ∧ a = nI i ∧ P i h) ?_ (e - s) (nI s) h N0 (by have := N0_big; omega) ⟨s, by omega, by omega, by omega, rfl, h0⟩
  intro d self a h ⟨i, h1, h1', h2, h3, h4⟩
  subst h3
  by_cases hi : i = e
  · subst hi
    exact Or.inl ⟨h, hx self h h4, h4⟩
  · obtain ⟨h', e1, e2⟩ := hs self i h h1 (by omega) h4
    exact Or.inr ⟨e - (i + 1), nI (i + 1), h', by omega, ⟨i + 1, by omega, by omega, rfl, rfl, e2⟩, e1⟩
theorem loop3f {A β : Type} {F : (A → Int32 → Hp → Option β) → A → Int32 → Hp → Option β} {k : A → Hp → Option β} (s e : Nat) (hse : s ≤ e) (P : Nat → A → Hp → Prop) (hx : ∀ self a h, P e a h → F self a (nI e) h = k a h) (hs : ∀ self i a h, s ≤ i → i < e → P i a h → ∃ a' h', F self a (nI i) h = self a' (nI (i + 1)) h' ∧ P (i + 1) a' h') (a : A) (h : Hp) (h0 : P s a h) (hn : e ≤ 1000000) : ∃ a' h', itr3 F N0 a (nI s) h = k a' h' ∧ P e a' h' := by
  refine itr3_loop (F := F) (fun r => ∃ a' h', r = k a' h' ∧ P e a' h') (fun d a x h => ∃ i, s ≤ i ∧ i ≤ e ∧ d = e - i ∧ x = nI i ∧ P i a h) ?_ (e - s) a (nI s) h N0 (by have := N0_big; omega) ⟨s, by omega, by omega, by omega, rfl, h0⟩
  intro d self a x h ⟨i, h1, h1', h2, h3, h4⟩
  subst h3
  by_cases hi : i = e
  · subst hi
    exact Or.inl ⟨a, h, hx self a h h4, h4⟩
  · obtain ⟨a', h', e1, e2⟩ := hs self i a h h1 (by omega) h4
    exact Or.inr ⟨e - (i + 1), a', nI (i + 1), h', by omega, ⟨i + 1, by omega, by omega, rfl, rfl, e2⟩, e1⟩
def allP (p : Nat → Bool) (s : Nat) : Nat → Bool
  | 0 => true
  | n + 1 => allP p s n && p (s + n)
theorem allP_t {p : Nat → Bool} {s : Nat} : ∀ {n : Nat}, allP p s n = true ↔ ∀ i, i < n → p (s + i) = true
  | 0 => ⟨fun _ i hi => by omega, fun _ => rfl⟩
  | n + 1 => by
    show (allP p s n && p (s + n)) = true ↔ _
    rw [Bool.and_eq_true, allP_t]
    constructor
    · intro ⟨h1, h2⟩ i hi
      by_cases h3 : i = n
      · rw [h3]; exact h2
      · exact h1 i (by omega)
    · intro h1
      exact ⟨fun i hi => h1 i (by omega), h1 n (by omega)⟩
/-- a loop that ends early where p doesn't hold; the heap stays -/
theorem allLoop {β : Type} {F : (Int32 → Hp → Option β) → Int32 → Hp → Option β} {k0 k1 : Option β} (p : Nat → Bool) (s n : Nat) (hx : ∀ self, F self (nI (s + n)) h = k1) (hs : ∀ self i, i < n → F self (nI (s + i)) h = if p (s + i) = true then self (nI (s + i + 1)) h else k0) (hn : n ≤ 1000000) : itr2 F N0 (nI s) h = if allP p s n = true then k1 else k0 := by
  by_cases hp : allP p s n = true
  · rw [if_pos hp]
    exact sq2 n (fun i => nI (s + i)) (fun _ => h) hx (fun self i hi => by rw [hs self i hi, if_pos (allP_t.mp hp i hi)]; rfl) (by omega) rfl rfl
  · rw [if_neg hp]
    have hex : ∃ i, i < n ∧ ¬ p (s + i) = true := by
      apply Classical.byContradiction
      intro hc
      exact hp (allP_t.mpr (fun i hi => Classical.byContradiction fun z => hc ⟨i, hi, z⟩))
    obtain ⟨j, ⟨hj1, hj2⟩, hj3⟩ := pk_least (fun i => i < n ∧ ¬ p (s + i) = true) hex
    refine sq2 j (fun i => nI (s + i)) (fun _ => h) (fun self => ?_) (fun self i hi => ?_) (by omega) rfl rfl
    · rw [hs self j hj1, if_neg hj2]
    · rw [hs self i (by omega), if_pos (Classical.byContradiction fun z => hj3 i hi ⟨by omega, z⟩)]
      rfl
theorem mean_lt (l : List Nat) : mean σ l < 256 := mnt_lt _
/-- a beginning, or 0 -/
theorem c_begAll (x : Int32) {e : Nat} (h9 : h.1 9 0 = nI e) (he : e < 1000) : (∃ b, b ≤ e ∧ x = nI b ∧ f_X12_isBeginningOrAll x h = some (nI 1, h)) ∨ (f_X12_isBeginningOrAll x h = some (nI 0, h) ∧ ∀ b, b ≤ e → x ≠ nI b) := by
  unfold f_X12_isBeginningOrAll f_X12_isBeginning
  by_cases h1 : x < nI 0
  · have h2 : ¬ x = nI 0 := fun z => by rw [z] at h1; exact absurd h1 (by decide)
    have h3 : x < nI 1 := by
      rw [fa_lt] at h1 ⊢
      rw [nI_toInt (by decide)] at h1 ⊢
      omega
    refine Or.inr ⟨?_, fun b hb z => ?_⟩
    · simp (disch := omega) only [li_0, li_1, li_2, li_3, li_4, li_5, li_6, li_7, li_8, li_9, li_10, li_12, li_13, li_14, li_15, li_16, li_20, li_24, li_25, li_31, li_32, li_40, li_48, li_54, li_56, li_64, li_72, li_97, li_99, li_100, li_112, li_122, li_144, li_145, li_155, li_157, li_200, li_216, li_255, li_256, li_432, li_437, li_438, li_462, li_463, li_713, li_900, li_940, lL_0, lL_1, lL_255, lL_1099511627776, neg_1, ltT, ltF, leT, leF, eqT, eqF, ltMT, ltMF, leMT, leMF, eqMF, eqMF', addM, inbT, clp, nI_add, subN, pk_mul, nzT, remN, shl1, bitN, bit0, bit1, lcE, lcLE, lcLT, LleT, LleF, LltT, LltF, LeqT, LeqF, ↓bndS, ↓bnvS, ↓lt_s1, bndS, bnvS, eq_self, ↓reduceIte, h2, h3]
    · rw [z] at h1
      exact nI_pos (by omega) h1
  · by_cases h2 : nI e < x
    · have h3 : ¬ x < nI 1 := fun z => by
        rw [fa_lt] at z h2
        rw [nI_toInt (by omega)] at z h2
        omega
      have h4 : ¬ x = nI 0 := fun z => by
        rw [z, fa_lt, nI_toInt (by omega), nI_toInt (by omega)] at h2
        omega
      refine Or.inr ⟨?_, fun b hb z => ?_⟩
      · simp (disch := omega) only [li_0, li_1, li_2, li_3, li_4, li_5, li_6, li_7, li_8, li_9, li_10, li_12, li_13, li_14, li_15, li_16, li_20, li_24, li_25, li_31, li_32, li_40, li_48, li_54, li_56, li_64, li_72, li_97, li_99, li_100, li_112, li_122, li_144, li_145, li_155, li_157, li_200, li_216, li_255, li_256, li_432, li_437, li_438, li_462, li_463, li_713, li_900, li_940, lL_0, lL_1, lL_255, lL_1099511627776, neg_1, ltT, ltF, leT, leF, eqT, eqF, ltMT, ltMF, leMT, leMF, eqMF, eqMF', addM, inbT, clp, nI_add, subN, pk_mul, nzT, remN, shl1, bitN, bit0, bit1, lcE, lcLE, lcLT, LleT, LleF, LltT, LltF, LeqT, LeqF, ↓bndS, ↓bnvS, ↓lt_s1, bndS, bnvS, eq_self, ↓reduceIte, h9, h2, h3, h4]
      · rw [z] at h2
        exact nI_nlt hb (by omega) h2
    · obtain ⟨b, -, hb, rfl⟩ := in_range (a := 0) (b := e) (by omega) (by omega) h1 h2
      refine Or.inl ⟨b, hb, rfl, ?_⟩
      by_cases h0 : b = 0
      · simp (disch := omega) only [li_0, li_1, li_2, li_3, li_4, li_5, li_6, li_7, li_8, li_9, li_10, li_12, li_13, li_14, li_15, li_16, li_20, li_24, li_25, li_31, li_32, li_40, li_48, li_54, li_56, li_64, li_72, li_97, li_99, li_100, li_112, li_122, li_144, li_145, li_155, li_157, li_200, li_216, li_255, li_256, li_432, li_437, li_438, li_462, li_463, li_713, li_900, li_940, lL_0, lL_1, lL_255, lL_1099511627776, neg_1, ltT, ltF, leT, leF, eqT, eqF, ltMT, ltMF, leMT, leMF, eqMF, eqMF', addM, inbT, clp, nI_add, subN, pk_mul, nzT, remN, shl1, bitN, bit0, bit1, lcE, lcLE, lcLT, LleT, LleF, LltT, LltF, LeqT, LeqF, ↓bndS, ↓bnvS, ↓lt_s1, bndS, bnvS, eq_self, ↓reduceIte, h0]
      · simp (disch := omega) only [li_0, li_1, li_2, li_3, li_4, li_5, li_6, li_7, li_8, li_9, li_10, li_12, li_13, li_14, li_15, li_16, li_20, li_24, li_25, li_31, li_32, li_40, li_48, li_54, li_56, li_64, li_72, li_97, li_99, li_100, li_112, li_122, li_144, li_145, li_155, li_157, li_200, li_216, li_255, li_256, li_432, li_437, li_438, li_462, li_463, li_713, li_900, li_940, lL_0, lL_1, lL_255, lL_1099511627776, neg_1, ltT, ltF, leT, leF, eqT, eqF, ltMT, ltMF, leMT, leMF, eqMF, eqMF', addM, inbT, clp, nI_add, subN, pk_mul, nzT, remN, shl1, bitN, bit0, bit1, lcE, lcLE, lcLT, LleT, LleF, LltT, LltF, LeqT, LeqF, ↓bndS, ↓bnvS, ↓lt_s1, bndS, bnvS, eq_self, ↓reduceIte, h9]
theorem c_beg (x : Int32) {e : Nat} (h9 : h.1 9 0 = nI e) (he : e < 1000) : (∃ b, 1 ≤ b ∧ b ≤ e ∧ x = nI b ∧ f_X12_isBeginning x h = some (nI 1, h)) ∨ (f_X12_isBeginning x h = some (nI 0, h) ∧ ∀ b, 1 ≤ b → b ≤ e → x ≠ nI b) := by
  unfold f_X12_isBeginning
  by_cases h1 : x < nI 1
  · refine Or.inr ⟨?_, fun b hb hb2 z => ?_⟩
    · simp (disch := omega) only [li_0, li_1, li_2, li_3, li_4, li_5, li_6, li_7, li_8, li_9, li_10, li_12, li_13, li_14, li_15, li_16, li_20, li_24, li_25, li_31, li_32, li_40, li_48, li_54, li_56, li_64, li_72, li_97, li_99, li_100, li_112, li_122, li_144, li_145, li_155, li_157, li_200, li_216, li_255, li_256, li_432, li_437, li_438, li_462, li_463, li_713, li_900, li_940, lL_0, lL_1, lL_255, lL_1099511627776, neg_1, ltT, ltF, leT, leF, eqT, eqF, ltMT, ltMF, leMT, leMF, eqMF, eqMF', addM, inbT, clp, nI_add, subN, pk_mul, nzT, remN, shl1, bitN, bit0, bit1, lcE, lcLE, lcLT, LleT, LleF, LltT, LltF, LeqT, LeqF, ↓bndS, ↓bnvS, ↓lt_s1, bndS, bnvS, eq_self, ↓reduceIte, h1]
    · rw [z] at h1
      exact nI_nlt hb (by omega) h1
  · by_cases h2 : nI e < x
    · refine Or.inr ⟨?_, fun b hb hb2 z => ?_⟩
      · simp (disch := omega) only [li_0, li_1, li_2, li_3, li_4, li_5, li_6, li_7, li_8, li_9, li_10, li_12, li_13, li_14, li_15, li_16, li_20, li_24, li_25, li_31, li_32, li_40, li_48, li_54, li_56, li_64, li_72, li_97, li_99, li_100, li_112, li_122, li_144, li_145, li_155, li_157, li_200, li_216, li_255, li_256, li_432, li_437, li_438, li_462, li_463, li_713, li_900, li_940, lL_0, lL_1, lL_255, lL_1099511627776, neg_1, ltT, ltF, leT, leF, eqT, eqF, ltMT, ltMF, leMT, leMF, eqMF, eqMF', addM, inbT, clp, nI_add, subN, pk_mul, nzT, remN, shl1, bitN, bit0, bit1, lcE, lcLE, lcLT, LleT, LleF, LltT, LltF, LeqT, LeqF, ↓bndS, ↓bnvS, ↓lt_s1, bndS, bnvS, eq_self, ↓reduceIte, h9, h1, h2]
      · rw [z] at h2
        exact nI_nlt hb2 (by omega) h2
    · obtain ⟨b, h3, hb, rfl⟩ := in_range (a := 1) (b := e) (by omega) (by omega) h1 h2
      refine Or.inl ⟨b, h3, hb, rfl, ?_⟩
      simp (disch := omega) only [li_0, li_1, li_2, li_3, li_4, li_5, li_6, li_7, li_8, li_9, li_10, li_12, li_13, li_14, li_15, li_16, li_20, li_24, li_25, li_31, li_32, li_40, li_48, li_54, li_56, li_64, li_72, li_97, li_99, li_100, li_112, li_122, li_144, li_145, li_155, li_157, li_200, li_216, li_255, li_256, li_432, li_437, li_438, li_462, li_463, li_713, li_900, li_940, lL_0, lL_1, lL_255, lL_1099511627776, neg_1, ltT, ltF, leT, leF, eqT, eqF, ltMT, ltMF, leMT, leMF, eqMF, eqMF', addM, inbT, clp, nI_add, subN, pk_mul, nzT, remN, shl1, bitN, bit0, bit1, lcE, lcLE, lcLT, LleT, LleF, LltT, LltF, LeqT, LeqF, ↓bndS, ↓bnvS, ↓lt_s1, bndS, bnvS, eq_self, ↓reduceIte, h9]
theorem m_begT {b e : Nat} (h3 : h.1 157 3 = nI e) (he : e < 1000) (hb : b ≤ e) : f_X13_isBeginning (nI b) h = some (nI 1, h) := by
  unfold f_X13_isBeginning
  rw [li_3, clp (by omega), h3, m_isIn_t (lo := 0) (a := 0) (b := e) (j := b) h rfl rfl rfl (by omega) hb (by omega), bndS]
  rfl
theorem m_begF {x : Int32} {e : Nat} (h3 : h.1 157 3 = nI e) (he : e < 1000) (hb : ∀ b, b ≤ e → x ≠ nI b) : f_X13_isBeginning x h = some (nI 0, h) := by
  unfold f_X13_isBeginning
  rw [li_3, clp (by omega), h3]
  rcases m_isIn x (lo := 0) (hi := nI e) (a := 0) (b := e) h rfl rfl (by omega) (by omega) with ⟨e1, q⟩ | ⟨j, q1, q2, q3, e1⟩
  · rw [e1, bndS]
    rfl
  · exact absurd q3 (hb j q2)
/-- the class's side of the TEXT: what it means by b -/
theorem c_means {b : Nat} (hA : AbOk tp σ nm K fd fl tn) (hC : CR tp σ nm K fd fl tn h) (hb : b < 1000) : f_X3_meansBy 7 18 (nI b) h = some (nI (mean σ (TX σ b)), h) := by
  have hS := hA.2.1
  refine c_meansBy (t := 7) (r := 18) hC.2.1.1 hS.1 hC.2.1.2.1.1 hC.2.1.2.1.2 (fun i hi => ?_) (show _ ≤ 24 from hS.2.1.1) (by decide) hb
  have := hS.2.1.2 i hi
  rw [show 437 + 1 + i = 438 + i by omega] at this
  exact this
theorem st_means (x : Int32) (hI : Inv h) : ∃ v h1 h2, f_X12_means x h = some (v, h1) ∧ f_X13_means x h1 = some (v, h2) ∧ Inv h2 := by
  obtain ⟨tp, σ, nm, K, fd, fl, tn, hA, hC, hM⟩ := hI
  have M1 := hM.keep (th_Eq 0)
  have e5 := hA.2.1.1.1.2.2.2.2.1
  have t3 : h.1 9 0 = nI (σ 3) := hC.2.1.1.1.2.2.2.1
  rcases c_begAll x t3 (by omega) with ⟨b, hb, rfl, c1⟩ | ⟨c1, hb⟩
  · obtain ⟨h2, e2, M2, L2⟩ := m_textMeans (b := b) M1 hA.2.1 hb
    refine ⟨nI (mean σ (TX σ b)), h, h2, ?_, ?_, tp, σ, nm, K, fd, fl, tn, hA, hC.lo hA ((th_Lo 0).tr L2), M2⟩
    · unfold f_X12_means
      rw [c1, bndS, if_neg (by decide), c_means hA hC (by omega), bndS]
    · unfold f_X13_means
      rw [lt_s0, m_begT (M1.2.1 3 (by omega)) (by omega) hb, bndS, if_neg (by decide), e2, bndS]
  · refine ⟨-1, h, sI h 155 0 0, ?_, ?_, tp, σ, nm, K, fd, fl, tn, hA, hC.lo hA (th_Lo 0), M1⟩
    · unfold f_X12_means
      rw [c1, bndS, if_pos (by decide)]
    · unfold f_X13_means
      rw [lt_s0, m_begF (M1.2.1 3 (by omega)) (by omega) hb, bndS, if_pos (by decide)]
/-- the bits of those b below n for which p holds -/
def bts (p : Nat → Bool) (n : Nat) : Nat := ors (fun b => if p b = true then 2 ^ b else 0) n
theorem bts_s (p : Nat → Bool) (n : Nat) : bts p (n + 1) = bts p n ||| (if p n = true then 2 ^ n else 0) := rfl
theorem bts_cong {p q : Nat → Bool} (n : Nat) (hpq : ∀ i, i < n → p i = q i) : bts p n = bts q n := ors_cong n (fun i hi => by
  show (if p i = true then _ else _) = _
  rw [hpq i hi])
def trn (σ : Nat → Nat) (r : Nat → List Nat) (b : Nat) : Bool := decide (0 < b) && decide (mean σ (r b) ≠ mean σ (r 0))
theorem bts_1 {p : Nat → Bool} (h0 : p 0 = false) : bts p 1 = 0 := by
  rw [show (1 : Nat) = 0 + 1 from rfl, bts_s, h0]
  simp [bts, ors]
theorem trn_0 (r : Nat → List Nat) : trn σ r 0 = false := by simp [trn]
/-- turnsOf: by which beginnings a row means otherwise -/
theorem c_turnsOf {t r n : Nat} {f : Nat → Nat} (T : TgRep h t σ nm) (H : TgOk σ nm) (hn : h.1 r 1 = nI n) (hf : ∀ i, i < n → h.1 (r + 1) i = nI (f i)) (hl : ∀ i, i < n → f i < σ 2) (hr : n ≤ aln (r + 1)) (hc : aln (r + 1) ≤ 500) : f_X3_turnsOf t r h = some (nI (bts (trn σ (fun b => lf (stk (σ 3) (σ 4) b) f n)) (σ 3 + 1)), h) := by
  have T3 := T.1.2.2.2.1
  have e5 := H.1.2.2.2.2.1
  have mb : ∀ b, b < 1000 → f_X3_meansBy t r (nI b) h = _ := fun b hb => c_meansBy (b := b) T H hn hf hl hr hc hb
  unfold f_X3_turnsOf
  rw [li_0, mb 0 (by omega), bndS]
  refine sq3 (σ 3) (fun i => nI (bts (trn σ (fun b => lf (stk (σ 3) (σ 4) b) f n)) (1 + i))) (fun i => nI (1 + i)) (fun _ => h) (fun self => ?_) (fun self i hi => ?_) (by omega) (by rw [bts_1 (trn_0 _)]) rfl rfl
  · unfold F_X3_turnsOf_14
    simp (disch := omega) only [li_0, li_1, li_2, li_3, li_4, li_5, li_6, li_7, li_8, li_9, li_10, li_12, li_13, li_14, li_15, li_16, li_20, li_24, li_25, li_31, li_32, li_40, li_48, li_54, li_56, li_64, li_72, li_97, li_99, li_100, li_112, li_122, li_144, li_145, li_155, li_157, li_200, li_216, li_255, li_256, li_432, li_437, li_438, li_462, li_463, li_713, li_900, li_940, lL_0, lL_1, lL_255, lL_1099511627776, neg_1, ltT, ltF, leT, leF, eqT, eqF, ltMT, ltMF, leMT, leMF, eqMF, eqMF', addM, inbT, clp, nI_add, subN, pk_mul, nzT, remN, shl1, bitN, bit0, bit1, lcE, lcLE, lcLT, LleT, LleF, LltT, LltF, LeqT, LeqF, ↓bndS, ↓bnvS, ↓lt_s1, bndS, bnvS, eq_self, ↓reduceIte, T3]
    rw [Nat.add_comm]
  · have l0 := mean_lt (σ := σ) (lf (stk (σ 3) (σ 4) 0) f n)
    have l1 := mean_lt (σ := σ) (lf (stk (σ 3) (σ 4) (1 + i)) f n)
    unfold F_X3_turnsOf_14
    rw [show 1 + (i + 1) = 1 + i + 1 by omega, bts_s]
    by_cases h1 : mean σ (lf (stk (σ 3) (σ 4) (1 + i)) f n) = mean σ (lf (stk (σ 3) (σ 4) 0) f n)
    · have h2 : trn σ (fun b => lf (stk (σ 3) (σ 4) b) f n) (1 + i) = false := by
        unfold trn
        simp [h1]
      simp (disch := omega) only [li_0, li_1, li_2, li_3, li_4, li_5, li_6, li_7, li_8, li_9, li_10, li_12, li_13, li_14, li_15, li_16, li_20, li_24, li_25, li_31, li_32, li_40, li_48, li_54, li_56, li_64, li_72, li_97, li_99, li_100, li_112, li_122, li_144, li_145, li_155, li_157, li_200, li_216, li_255, li_256, li_432, li_437, li_438, li_462, li_463, li_713, li_900, li_940, lL_0, lL_1, lL_255, lL_1099511627776, neg_1, ltT, ltF, leT, leF, eqT, eqF, ltMT, ltMF, leMT, leMF, eqMF, eqMF', addM, inbT, clp, nI_add, subN, pk_mul, nzT, remN, shl1, bitN, bit0, bit1, lcE, lcLE, lcLT, LleT, LleF, LltT, LltF, LeqT, LeqF, ↓bndS, ↓bnvS, ↓lt_s1, bndS, bnvS, eq_self, ↓reduceIte, T3, mb, h2, Bool.false_eq_true, Nat.or_zero]
    · have h2 : trn σ (fun b => lf (stk (σ 3) (σ 4) b) f n) (1 + i) = true := by
        unfold trn
        simp [h1]
        omega
      simp (disch := omega) only [li_0, li_1, li_2, li_3, li_4, li_5, li_6, li_7, li_8, li_9, li_10, li_12, li_13, li_14, li_15, li_16, li_20, li_24, li_25, li_31, li_32, li_40, li_48, li_54, li_56, li_64, li_72, li_97, li_99, li_100, li_112, li_122, li_144, li_145, li_155, li_157, li_200, li_216, li_255, li_256, li_432, li_437, li_438, li_462, li_463, li_713, li_900, li_940, lL_0, lL_1, lL_255, lL_1099511627776, neg_1, ltT, ltF, leT, leF, eqT, eqF, ltMT, ltMF, leMT, leMF, eqMF, eqMF', addM, inbT, clp, nI_add, subN, pk_mul, nzT, remN, shl1, bitN, bit0, bit1, lcE, lcLE, lcLT, LleT, LleF, LltT, LltF, LeqT, LeqF, ↓bndS, ↓bnvS, ↓lt_s1, bndS, bnvS, eq_self, ↓reduceIte, T3, mb, h2, fa_or]
theorem st_turns (hI : Inv h) : ∃ v h1 h2, f_X12_turns h = some (v, h1) ∧ f_X13_turns h1 = some (v, h2) ∧ Inv h2 := by
  obtain ⟨tp, σ, nm, K, fd, fl, tn, hA, hC, hM⟩ := hI
  have hS := hA.2.1
  have M1 := hM.keep (th_Eq 0)
  have e5 := hS.1.1.2.2.2.2.1
  have cT := c_turnsOf (t := 7) (r := 18) hC.2.1.1 hS.1 hC.2.1.2.1.1 hC.2.1.2.1.2 (fun i hi => by
    have := hS.2.1.2 i hi
    rw [show 437 + 1 + i = 438 + i by omega] at this
    exact this) (show _ ≤ 24 from hS.2.1.1) (by decide)
  obtain ⟨h2, e2, M2, L2⟩ := m_textMeans (b := 0) M1 hS (by omega)
  obtain ⟨x, h3, e3, hx, M3, L3⟩ := loop3f (F := F_X13_turns_15 (nI (mean σ (TX σ 0))) (fun v11 h10 => some (v11, h10))) (k := fun v11 h10 => some (v11, h10)) 1 (σ 3 + 1) (by omega) (fun i x g => x = nI (bts (trn σ (TX σ)) i) ∧ MR tp σ nm K fd fl tn g ∧ Lo h2 g) (fun self x g ⟨q1, q2, q3⟩ => by
      have g3 := q2.2.1 3 (by omega)
      unfold F_X13_turns_15
      simp (disch := omega) only [li_0, li_1, li_2, li_3, li_4, li_5, li_6, li_7, li_8, li_9, li_10, li_12, li_13, li_14, li_15, li_16, li_20, li_24, li_25, li_31, li_32, li_40, li_48, li_54, li_56, li_64, li_72, li_97, li_99, li_100, li_112, li_122, li_144, li_145, li_155, li_157, li_200, li_216, li_255, li_256, li_432, li_437, li_438, li_462, li_463, li_713, li_900, li_940, lL_0, lL_1, lL_255, lL_1099511627776, neg_1, ltT, ltF, leT, leF, eqT, eqF, ltMT, ltMF, leMT, leMF, eqMF, eqMF', addM, inbT, clp, nI_add, subN, pk_mul, nzT, remN, shl1, bitN, bit0, bit1, lcE, lcLE, lcLT, LleT, LleF, LltT, LltF, LeqT, LeqF, ↓bndS, ↓bnvS, ↓lt_s1, bndS, bnvS, eq_self, ↓reduceIte, g3]) (fun self i x g h1 hi ⟨q1, q2, q3⟩ => by
      have g3 := q2.2.1 3 (by omega)
      obtain ⟨g2, f2, N2, O2⟩ := m_textMeans (b := i) q2 hS (by omega)
      have l0 := mean_lt (σ := σ) (TX σ 0)
      have l1 := mean_lt (σ := σ) (TX σ i)
      refine ⟨nI (bts (trn σ (TX σ)) (i + 1)), g2, ?_, rfl, N2, q3.tr O2⟩
      rw [bts_s, q1]
      unfold F_X13_turns_15
      by_cases h1 : mean σ (TX σ i) = mean σ (TX σ 0)
      · have h2 : trn σ (TX σ) i = false := by
          unfold trn
          simp [h1]
        simp (disch := omega) only [li_0, li_1, li_2, li_3, li_4, li_5, li_6, li_7, li_8, li_9, li_10, li_12, li_13, li_14, li_15, li_16, li_20, li_24, li_25, li_31, li_32, li_40, li_48, li_54, li_56, li_64, li_72, li_97, li_99, li_100, li_112, li_122, li_144, li_145, li_155, li_157, li_200, li_216, li_255, li_256, li_432, li_437, li_438, li_462, li_463, li_713, li_900, li_940, lL_0, lL_1, lL_255, lL_1099511627776, neg_1, ltT, ltF, leT, leF, eqT, eqF, ltMT, ltMF, leMT, leMF, eqMF, eqMF', addM, inbT, clp, nI_add, subN, pk_mul, nzT, remN, shl1, bitN, bit0, bit1, lcE, lcLE, lcLT, LleT, LleF, LltT, LltF, LeqT, LeqF, ↓bndS, ↓bnvS, ↓lt_s1, bndS, bnvS, eq_self, ↓reduceIte, g3, f2, h2, Bool.false_eq_true, fa_or]
      · have h2 : trn σ (TX σ) i = true := by
          unfold trn
          simp [h1]
          omega
        simp (disch := omega) only [li_0, li_1, li_2, li_3, li_4, li_5, li_6, li_7, li_8, li_9, li_10, li_12, li_13, li_14, li_15, li_16, li_20, li_24, li_25, li_31, li_32, li_40, li_48, li_54, li_56, li_64, li_72, li_97, li_99, li_100, li_112, li_122, li_144, li_145, li_155, li_157, li_200, li_216, li_255, li_256, li_432, li_437, li_438, li_462, li_463, li_713, li_900, li_940, lL_0, lL_1, lL_255, lL_1099511627776, neg_1, ltT, ltF, leT, leF, eqT, eqF, ltMT, ltMF, leMT, leMF, eqMF, eqMF', addM, inbT, clp, nI_add, subN, pk_mul, nzT, remN, shl1, bitN, bit0, bit1, lcE, lcLE, lcLT, LleT, LleF, LltT, LltF, LeqT, LeqF, ↓bndS, ↓bnvS, ↓lt_s1, bndS, bnvS, eq_self, ↓reduceIte, g3, f2, h2, fa_or]) (nI 0) h2 ⟨by rw [bts_1 (trn_0 _)], M2, Lo.rf⟩ (by omega)
  refine ⟨nI (bts (trn σ (TX σ)) (σ 3 + 1)), h, h3, ?_, ?_, tp, σ, nm, K, fd, fl, tn, hA, hC.lo hA ((th_Lo 0).tr (L2.tr L3)), M3⟩
  · unfold f_X12_turns
    rw [cT, bndS]
    rfl
  · unfold f_X13_turns
    rw [lt_s0]
    rw [li_0] at e2 ⊢
    rw [e2, bndS, li_1, e3, hx]
end C1
