section T6
variable {tp : List Nat} {σ τ : Nat → Nat} {nm : Nat → List Nat} {K : Im} {fd : List Nat} {fl : Nat} {tn : Option Tn} {h h' : Hp}
/-! sums -/
def sm (f : Nat → Nat) : Nat → Nat
  | 0 => 0
  | n + 1 => sm f n + f n
theorem sm_cong {f g : Nat → Nat} : ∀ n, (∀ i, i < n → f i = g i) → sm f n = sm g n
  | 0, _ => rfl
  | n + 1, hf => by
    unfold sm
    rw [sm_cong n (fun i hi => hf i (by omega)), hf n (by omega)]
theorem sm_zero {f : Nat → Nat} : ∀ n, (∀ i, i < n → f i = 0) → sm f n = 0
  | 0, _ => rfl
  | n + 1, hf => by
    unfold sm
    rw [sm_zero n (fun i hi => hf i (by omega)), hf n (by omega)]
theorem sm_add (f g : Nat → Nat) : ∀ n, sm (fun i => f i + g i) n = sm f n + sm g n
  | 0 => rfl
  | n + 1 => by
    unfold sm
    rw [sm_add f g n]
    omega
theorem sm_mul (a : Nat) (f : Nat → Nat) : ∀ n, a * sm f n = sm (fun i => a * f i) n
  | 0 => rfl
  | n + 1 => by
    unfold sm
    rw [Nat.mul_add, sm_mul a f n]
theorem sm_mulr (a : Nat) (f : Nat → Nat) : ∀ n, sm f n * a = sm (fun i => f i * a) n
  | 0 => by unfold sm; exact Nat.zero_mul a
  | n + 1 => by
    unfold sm
    rw [Nat.add_mul, sm_mulr a f n]
theorem sm_swap (f : Nat → Nat → Nat) (m : Nat) : ∀ n, sm (fun i => sm (fun j => f i j) m) n = sm (fun j => sm (fun i => f i j) n) m
  | 0 => (sm_zero m (fun _ _ => rfl)).symm
  | n + 1 => by
    show sm (fun i => sm (fun j => f i j) m) n + sm (fun j => f n j) m = _
    rw [sm_swap f m n, ← sm_add]
    rfl
theorem sm_le {f : Nat → Nat} {M : Nat} : ∀ n, (∀ i, i < n → f i ≤ M) → sm f n ≤ n * M
  | 0, _ => by unfold sm; omega
  | n + 1, hf => by
    have a := sm_le n (fun i hi => hf i (by omega))
    have b := hf n (by omega)
    unfold sm
    rw [Nat.add_mul, Nat.one_mul]
    omega
theorem sm_ne {f : Nat → Nat} : ∀ n, sm f n ≠ 0 ↔ ∃ i, i < n ∧ f i ≠ 0
  | 0 => ⟨fun z => absurd rfl z, fun ⟨i, h1, _⟩ => absurd h1 (Nat.not_lt_zero _)⟩
  | n + 1 => by
    show sm f n + f n ≠ 0 ↔ _
    constructor
    · intro z
      by_cases h1 : f n = 0
      · obtain ⟨i, h2, h3⟩ := (sm_ne (f := f) n).mp (by omega)
        exact ⟨i, by omega, h3⟩
      · exact ⟨n, by omega, h1⟩
    · intro ⟨i, h1, h2⟩
      by_cases h3 : i = n
      · subst h3; omega
      · have := (sm_ne (f := f) n).mpr ⟨i, by omega, h2⟩
        omega
theorem mul01 {a : Nat} (h : a ≤ 1) (x : Nat) : a * x = if a = 1 then x else 0 := by
  rcases (show a = 0 ∨ a = 1 by omega) with rfl | rfl
  · simp
  · simp
/-! READINGS of what comes behind a SORT -/
def G (σ : Nat → Nat) : List Nat → Nat → Nat
  | [], o => if o = 5 then 0 else σ (10 + o)
  | w :: l, o => sm (fun k => fol σ o k * (σ (72 + 5 * w + k) * G σ l k)) 5
/-- with place i read as k -/
def Bk (σ : Nat → Nat) (l : List Nat) (i k : Nat) : Nat := σ (72 + 5 * l.getD i 0 + k) * G σ (l.drop (i + 1)) k
theorem drop_at {l : List Nat} {i : Nat} (hi : i < l.length) : l.drop i = l.getD i 0 :: l.drop (i + 1) := by
  rw [getD_el hi]
  exact List.drop_eq_getElem_cons hi
theorem G_at {l : List Nat} {i : Nat} (hi : i < l.length) (o : Nat) : G σ (l.drop i) o = sm (fun k => fol σ o k * Bk σ l i k) 5 := by
  rw [drop_at hi]
  rfl
theorem G_end {l : List Nat} {i : Nat} (hi : l.length ≤ i) (o : Nat) : G σ (l.drop i) o = if o = 5 then 0 else σ (10 + o) := by
  rw [List.drop_eq_nil_of_le hi]
  rfl
theorem G_le (H : TgOk σ nm) : ∀ (l : List Nat) (o : Nat), (∀ x ∈ l, x < 8) → o < 6 → G σ l o ≤ 5 ^ l.length
  | [], o, _, ho => by
    show (if o = 5 then 0 else σ (10 + o)) ≤ 1
    by_cases h5 : o = 5
    · rw [if_pos h5]; omega
    · rw [if_neg h5]; exact H.2.1 _ (by omega) (by omega)
  | w :: l, o, hl, ho => by
    have hw := hl w (List.mem_cons_self ..)
    have := sm_le (f := fun k => fol σ o k * (σ (72 + 5 * w + k) * G σ l k)) (M := 5 ^ l.length) 5 (fun k hk => by
      have a := H.fl ho hk
      have b := H.2.2.2.2.1 (72 + 5 * w + k) (by omega) (by omega)
      have c := G_le H l k (fun x hx => hl x (List.mem_cons_of_mem _ hx)) (by omega)
      show fol σ o k * (σ (72 + 5 * w + k) * G σ l k) ≤ _
      rw [mul01 a, mul01 b]
      by_cases h1 : fol σ o k = 1
      · rw [if_pos h1]
        by_cases h2 : σ (72 + 5 * w + k) = 1
        · rw [if_pos h2]; exact c
        · rw [if_neg h2]; omega
      · rw [if_neg h1]; omega)
    show sm _ 5 ≤ 5 ^ (l.length + 1)
    rw [Nat.pow_succ]
    omega
/-- the class counts from the first on -/
def nx (σ : Nat → Nat) (c : Nat → Nat) (w k : Nat) : Nat := if k < 5 then σ (72 + 5 * w + k) * sm (fun o => fol σ o k * c o) 6 else 0
def e5 (k : Nat) : Nat := if k = 5 then 1 else 0
theorem nx_G : ∀ (l : List Nat) (c : Nat → Nat), sm (fun k => σ (10 + k) * (l.foldl (nx σ) c) k) 5 = sm (fun o => c o * G σ l o) 6
  | [], c => by
    show _ = sm (fun o => c o * G σ [] o) 5 + c 5 * G σ [] 5
    rw [show G σ [] 5 = 0 from rfl, Nat.mul_zero, Nat.add_zero]
    refine sm_cong 5 (fun i hi => ?_)
    show σ (10 + i) * c i = c i * (if i = 5 then 0 else σ (10 + i))
    rw [if_neg (by omega), Nat.mul_comm]
  | w :: l, c => by
    rw [List.foldl_cons, nx_G l (nx σ c w)]
    show sm (fun o => nx σ c w o * G σ l o) 5 + nx σ c w 5 * G σ l 5 = _
    rw [show nx σ c w 5 = 0 from rfl, Nat.zero_mul, Nat.add_zero]
    have e1 : sm (fun o => nx σ c w o * G σ l o) 5 = sm (fun k => sm (fun o => c o * (fol σ o k * (σ (72 + 5 * w + k) * G σ l k))) 6) 5 := sm_cong 5 (fun k hk => by
      show (if k < 5 then σ (72 + 5 * w + k) * sm (fun o => fol σ o k * c o) 6 else 0) * G σ l k = _
      rw [if_pos hk, sm_mul, sm_mulr]
      refine sm_cong 6 (fun o ho => ?_)
      show σ (72 + 5 * w + k) * (fol σ o k * c o) * G σ l k = _
      ac_rfl)
    rw [e1, sm_swap (fun k o => c o * (fol σ o k * (σ (72 + 5 * w + k) * G σ l k))) 6 5]
    refine sm_cong 6 (fun o ho => ?_)
    show sm (fun i => c o * (fol σ o i * (σ (72 + 5 * w + i) * G σ l i))) 5 = c o * sm _ 5
    rw [sm_mul]
theorem nx_e5 (l : List Nat) : sm (fun k => σ (10 + k) * (l.foldl (nx σ) e5) k) 5 = G σ l 5 := by
  rw [nx_G]
  simp [sm, e5]
theorem c_fillL {a : Nat} {v : Int64} (ha : aln a ≤ 1000) : ∃ h', f_J7_fill_d0a16 a v h = some h' ∧ Same [a] h h' ∧ h'.1 = h.1 ∧ ∀ j, j < aln a → h'.2.1 a j = v := by
  unfold f_J7_fill_d0a16
  rw [lt_s0, li_0]
  obtain ⟨g, e, p1, p2, p3⟩ := loop2n (F := F_J7_fill_d0a16_6 a v (Int32.ofNat (aln a)) (fun h5 => some h5)) (k := fun h5 => some h5) (aln a) (fun i g => Same [a] h g ∧ g.1 = h.1 ∧ ∀ j, j < i → g.2.1 a j = v) (fun self g _ => by
      unfold F_J7_fill_d0a16_6
      exact if_pos (nI_le (Nat.le_refl _) (by omega))) (fun self i g hi ⟨q1, q2, q3⟩ => by
      refine ⟨sL g a i v, ?_, q1.tr (Same.ofL (List.mem_cons_self ..)), q2, fun j hj => ?_⟩
      · unfold F_J7_fill_d0a16_6
        rw [if_neg (show ¬ Int32.ofNat (aln a) ≤ nI i from nI_ge hi (by omega)), if_pos (inb_nI hi (by omega)), lt_s0, nI_clamp (by omega), nI_1]
      · by_cases h1 : j = i
        · subst h1
          rw [sL_s]
        · rw [sL_nk1 h1]
          exact q3 j (by omega)) h ⟨Same.rf, rfl, fun j hj => by omega⟩ (by omega)
  exact ⟨g, e, p1, p2, p3⟩
theorem lgc0 (b : Bool) : (lg_cmp (lN b.toNat) 0 = 0) = (b = false) := by
  rw [show (0 : Int32) = nI 0 from rfl, lcE]
  cases b
  · exact propext ⟨fun _ => rfl, fun _ => rfl⟩
  · exact propext ⟨fun z => absurd z (by decide), fun z => by cases z⟩
theorem byo_par (x o : Nat) : x / 2 ^ (8 * o) % 2 = byo x o % 2 := by
  unfold byo
  omega
theorem c_mayFollow {t o k : Nat} (T : TgRep h t σ nm) (H : TgOk σ nm) (ho : o < 6) (hk : k < 5) : f_X10_mayFollow t (nI o) (nI k) h = some (nI (decide (fol σ o k = 1)).toNat, h) := by
  have al := ahd_lt H hk
  have fl := H.fl ho hk
  have e : lN (ahd σ k / 2 ^ (8 * o)) &&& 1 = lN (decide (fol σ o k = 1)).toNat := by
    rw [wb_a1 (Nat.lt_of_le_of_lt (Nat.div_le_self _ _) (by omega)), byo_par, ahd_pk, pk8_byte 6 o (fun i hi => by
      have := H.fl (o := i) hi hk
      show 255 * fol σ i k < 256
      omega) ho]
    congr 1
    rcases (show fol σ o k = 0 ∨ fol σ o k = 1 by omega) with z | z
    · rw [z]; rfl
    · rw [z]; rfl
  unfold f_X10_mayFollow
  rw [if_pos (inb_nI hk (by decide)), nI_clamp (by omega), T.2.2.2.1.1 k hk, li_8, pk_mul, Lushr (by omega) (by omega), e]
  simp only [lgc0]
  cases hb : decide (fol σ o k = 1)
  · rfl
  · rfl
theorem c_mayEnd {t k : Nat} (T : TgRep h t σ nm) (H : TgOk σ nm) (hk : k < 5) : f_X10_mayEnd t (nI k) h = some (nI (decide (σ (10 + k) = 1)).toNat, h) := by
  have al := ens_lt H
  have fl := H.2.1 (10 + k) (by omega) (by omega)
  have e : lN (ens σ / 2 ^ (8 * k)) &&& 1 = lN (decide (σ (10 + k) = 1)).toNat := by
    rw [wb_a1 (Nat.lt_of_le_of_lt (Nat.div_le_self _ _) (by omega)), byo_par, ens_pk, pk8_byte 5 k (fun i hi => by
      have := H.2.1 (10 + i) (by omega) (by omega)
      show 255 * σ (10 + i) < 256
      omega) hk]
    congr 1
    show 255 * σ (10 + k) % 2 = _
    rcases (show σ (10 + k) = 0 ∨ σ (10 + k) = 1 by omega) with z | z
    · rw [z]; rfl
    · rw [z]; rfl
  unfold f_X10_mayEnd
  rw [T.2.2.2.1.2, li_8, pk_mul, Lushr (by omega) (by omega), e]
  simp only [lgc0]
  cases hb : decide (σ (10 + k) = 1)
  · rfl
  · rfl
theorem c_countWith {t w : Nat} {c : Nat → Nat} (T : TgRep h t σ nm) (H : TgOk σ nm) (ht : t < 100) (hw : w < 8) (hc : ∀ k, k < 6 → h.2.1 116 k = lN (c k)) : ∃ h', f_X3_countWith t (nI w) h = some h' ∧ Same [116, 117] h h' ∧ h'.1 = h.1 ∧ ∀ k, k < 6 → h'.2.1 116 k = lN (nx σ c w k) := by
  have s5 := H.1.1
  obtain ⟨h1, f1, a1, a2, a3⟩ := c_fillL (h := h) (a := 117) (v := 0) (by decide)
  have a3' : ∀ j, j < 6 → h1.2.1 117 j = lN 0 := a3
  obtain ⟨k1, ek1⟩ : ∃ k1 : Hp → Option Hp, k1 = fun h15 => if cpOk 0 0 6 6 6 = true then lt (cL h15 117 ((0 : Int32).toNatClampNeg) 116 ((0 : Int32).toNatClampNeg) ((6 : Int32).toNatClampNeg)) fun h17 => some h17 else none := ⟨_, rfl⟩
  obtain ⟨g, f2, p1, p2, p3⟩ := loop2n (F := F_X3_countWith_10 t (nI w) k1) (k := k1) (σ 0) (fun s g => Same [117] h g ∧ g.1 = h.1 ∧ ∀ k, k < 6 → g.2.1 117 k = lN (if k < s then nx σ c w k else 0)) (fun self g ⟨q1, q2, q3⟩ => by
      unfold F_X3_countWith_10
      rw [q2, T.1.1, if_pos (nI_le (Nat.le_refl _) (by omega))]) (fun self s g hs ⟨q1, q2, q3⟩ => by
      have s5' : s < 5 := by omega
      have fold : ∀ q : Hp, Same [117] h q → q.1 = h.1 → TgRep q t σ nm := fun q z1 z2 => T.kept (fun a y1 y2 => ⟨by rw [z2], (z1 a (by simp; omega)).2.1⟩)
      have rd : ∀ q : Hp, Same [117] h q → q.1 = h.1 → f_X10_readsAs t (nI w) (nI s) q = some (nI (decide (σ (72 + 5 * w + s) = 1)).toNat, q) := fun q z1 z2 => c_readsAs (fold q z1 z2) H hw s5'
      by_cases hr : σ (72 + 5 * w + s) = 1
      · obtain ⟨g2, f3, r1, r2, r3⟩ := loop2n (F := F_X3_countWith_21 t (nI w) (nI s) (fun h14 => self (nI s + 1) h14)) (k := fun h14 => self (nI s + 1) h14) 6 (fun o q => Same [117] h q ∧ q.1 = h.1 ∧ ∀ k, k < 6 → q.2.1 117 k = lN (if k < s then nx σ c w k else if k = s then sm (fun o => fol σ o s * c o) o else 0)) (fun self q _ => by
            unfold F_X3_countWith_21
            rw [if_pos (by decide)]) (fun self o q ho ⟨y1, y2, y3⟩ => by
            have q117 := y3 s (by omega)
            rw [if_neg (by omega), if_pos rfl] at q117
            have q116 : q.2.1 116 o = lN (c o) := by rw [(y1 116 (by decide)).2.1]; exact hc o ho
            have fl := H.fl ho s5'
            have mf := c_mayFollow (fold q y1 y2) H ho s5'
            refine ⟨sL q 117 s (lN (sm (fun o => fol σ o s * c o) (o + 1))), ?_, y1.tr (Same.ofL (by decide)), y2, fun k hk => ?_⟩
            · unfold F_X3_countWith_21
              rw [if_neg (show ¬ (5 : Int32) < nI o from nI_nlt (a := 5) (b := o) (by omega) (by omega)), rd q y1 y2, bndS, hr]
              show (if (nI 1 : Int32) = 0 then _ else _) = _
              rw [if_neg (by decide), if_pos (inb_nI (by omega) (by decide)), nI_clamp (by omega), q117, mf, bndS]
              have hsum : sm (fun o => fol σ o s * c o) (o + 1) = sm (fun o => fol σ o s * c o) o + fol σ o s * c o := rfl
              by_cases hf : fol σ o s = 1
              · rw [decide_eq_true hf]
                show (if (nI 1 : Int32) = 0 then _ else _) = _
                rw [if_neg (by decide), if_pos (inb_nI (by omega) (by decide)), nI_clamp (by omega), q116]
                unfold B_X3_countWith_64
                rw [if_pos (inb_nI (by omega) (by decide)), lt_s0, nI_clamp (by omega), lN_add, hsum, hf, Nat.one_mul, nI_1]
              · have hf0 : fol σ o s = 0 := by omega
                rw [decide_eq_false hf]
                show (if (nI 0 : Int32) = 0 then _ else _) = _
                rw [if_pos (by decide)]
                unfold B_X3_countWith_64
                rw [if_pos (inb_nI (by omega) (by decide)), lt_s0, nI_clamp (by omega), show (0 : Int64) = lN 0 from rfl, lN_add, hsum, hf0, Nat.zero_mul, nI_1]
            · by_cases h1 : k = s
              · subst h1
                rw [sL_s, if_neg (by omega), if_pos rfl]
              · rw [sL_nk1 h1, y3 k hk, if_neg h1, if_neg h1]) g ⟨q1, q2, fun k hk => by
            rw [q3 k hk]
            congr 1
            by_cases h1 : k < s
            · rw [if_pos h1, if_pos h1]
            · rw [if_neg h1, if_neg h1]
              show 0 = (if k = s then 0 else 0)
              rw [ite_self]⟩ (by omega)
        refine ⟨g2, ?_, r1, r2, fun k hk => ?_⟩
        · unfold F_X3_countWith_10
          rw [q2, T.1.1, if_neg (nI_ge hs (by omega)), li_0, f3, nI_1]
        · rw [r3 k hk]
          congr 1
          by_cases h1 : k = s
          · subst h1
            rw [if_neg (by omega), if_pos rfl, if_pos (by omega)]
            unfold nx
            rw [if_pos s5', hr, Nat.one_mul]
          · by_cases h2 : k < s
            · rw [if_pos h2, if_pos (by omega)]
            · rw [if_neg h2, if_neg h1, if_neg (by omega)]
      · refine ⟨g, ?_, q1, q2, fun k hk => ?_⟩
        · unfold F_X3_countWith_10
          rw [q2, T.1.1, if_neg (nI_ge hs (by omega)), li_0]
          refine sq2 0 (fun i => nI i) (fun _ => g) (fun self2 => ?_) (fun self2 i hi => by omega) (by omega) rfl rfl
          unfold F_X3_countWith_21
          rw [if_neg (by decide), rd g q1 q2, bndS, decide_eq_false hr]
          show (if (nI 0 : Int32) = 0 then _ else _) = _
          rw [if_pos (by decide), nI_1]
        · rw [q3 k hk]
          congr 1
          by_cases h1 : k = s
          · subst h1
            have r0 : σ (72 + 5 * w + k) = 0 := by
              have := H.2.2.2.2.1 (72 + 5 * w + k) (by omega) (by omega)
              omega
            rw [if_neg (by omega), if_pos (by omega)]
            unfold nx
            rw [if_pos s5', r0, Nat.zero_mul]
          · by_cases h2 : k < s
            · rw [if_pos h2, if_pos (by omega)]
            · rw [if_neg h2, if_neg (by omega)]) h1 ⟨a1, a2, fun k hk => by rw [a3' k hk, if_neg (by omega)]⟩ (by omega)
  refine ⟨cL g 117 0 116 0 6, ?_, ?_, p2, fun k hk => ?_⟩
  · unfold f_X3_countWith
    rw [f1, bnvS, ← ek1, li_0, f2, ek1]
    show (if cpOk 0 0 6 6 6 = true then _ else _) = _
    rw [if_pos (by decide)]
    rfl
  · exact (p1.mono (fun q hq => by simp only [List.mem_cons, List.not_mem_nil, or_false] at hq ⊢; omega)).tr (Same.ofCL (by decide))
  · rw [cL_at, pk_cpy_in (by omega) (by omega), show 0 + (k - 0) = k by omega, p3 k hk]
    congr 1
    by_cases h1 : k < σ 0
    · rw [if_pos h1]
    · rw [if_neg h1]
      unfold nx
      by_cases h2 : k < 5
      · rw [if_pos h2, (H.2.2.1 k (by omega) h2).2.2.2 w hw, Nat.zero_mul]
      · rw [if_neg h2]
theorem c_countReadings {t r : Nat} {l : List Nat} (T : TgRep h t σ nm) (H : TgOk σ nm) (ht : t < 100) (hr : h.1 r 1 = nI l.length) (hf : lsI (h.1 (r + 1)) l) (hl : ∀ x ∈ l, x < 8) (hn : l.length ≤ aln (r + 1)) (hc : aln (r + 1) ≤ 500) : ∃ h', f_X3_countReadings t r h = some (lN (G σ l 5), h') ∧ Same [116, 117] h h' ∧ h'.1 = h.1 := by
  have s5 := H.1.1
  obtain ⟨h1, f1, a1, a2, a3⟩ := c_fillL (h := h) (a := 116) (v := 0) (by decide)
  have a3' : ∀ j, j < 6 → h1.2.1 116 j = lN 0 := a3
  obtain ⟨k1, ek1⟩ : ∃ k1 : Hp → Option (Int64 × Hp), k1 = fun h6 => itr3 (F_X3_countReadings_47 t (fun v14 h13 => some (v14, h13))) N0 0 0 h6 := ⟨_, rfl⟩
  obtain ⟨g, f2, p1, p2, p3⟩ := loop2n (F := F_X3_countReadings_17 t r k1) (k := k1) l.length (fun i g => Same [116, 117] h g ∧ g.1 = h.1 ∧ ∀ k, k < 6 → g.2.1 116 k = lN ((l.take i).foldl (nx σ) e5 k)) (fun self g ⟨q1, q2, q3⟩ => by
      unfold F_X3_countReadings_17
      rw [q2, hr, if_pos (nI_le (Nat.le_refl _) (by omega))]) (fun self i g hi ⟨q1, q2, q3⟩ => by
      have wi : l[i] < 8 := hl _ (List.getElem_mem hi)
      have hi2 := hf i hi
      rw [getD_el hi] at hi2
      have Tg : TgRep g t σ nm := T.kept (fun a y1 y2 => ⟨by rw [q2], (q1 a (by simp; omega)).2.1⟩)
      obtain ⟨g2, f3, r1, r2, r3⟩ := c_countWith Tg H ht wi q3
      refine ⟨g2, ?_, q1.tr r1, r2.trans q2, fun k hk => ?_⟩
      · unfold F_X3_countReadings_17
        rw [q2, hr, if_neg (nI_ge hi (by omega)), if_pos (inb_nI (by omega) (by omega)), nI_clamp (by omega), hi2, f3, bnvS, nI_1]
      · rw [r3 k hk, List.take_succ_eq_append_getElem hi, List.foldl_append, List.foldl_cons, List.foldl_nil]) (sL h1 116 5 1) ⟨(a1.mono (fun q hq => by simp only [List.mem_cons, List.not_mem_nil, or_false] at hq ⊢; omega)).tr (Same.ofL (by decide)), a2, fun k hk => by
        rw [List.take_zero, List.foldl_nil]
        unfold e5
        by_cases h1 : k = 5
        · rw [if_pos h1, h1, sL_s]; rfl
        · rw [if_neg h1, sL_nk1 h1, a3' k hk]⟩ (by omega)
  have Tg : TgRep g t σ nm := T.kept (fun a y1 y2 => ⟨by rw [p2], (p1 a (by simp; omega)).2.1⟩)
  refine ⟨g, ?_, p1, p2⟩
  unfold f_X3_countReadings
  rw [f1, bnvS, lt_s0, ← ek1, li_0]
  show itr2 (F_X3_countReadings_17 t r k1) N0 (nI 0) (sL h1 116 5 1) = _
  rw [f2, ek1]
  show itr3 _ N0 0 0 g = _
  rw [List.take_length] at p3
  refine sq3 (σ 0) (fun i => lN (sm (fun k => σ (10 + k) * (l.foldl (nx σ) e5) k) i)) (fun i => nI i) (fun _ => g) (fun self => ?_) (fun self i hi => ?_) (by omega) rfl rfl rfl
  · unfold F_X3_countReadings_47
    rw [p2, T.1.1, if_pos (nI_le (Nat.le_refl _) (by omega)), ← nx_e5]
    show some (lN _, g) = some (lN _, g)
    congr 3
    have key : ∀ m, σ 0 ≤ m → m ≤ 5 → sm (fun k => σ (10 + k) * (l.foldl (nx σ) e5) k) (σ 0) = sm (fun k => σ (10 + k) * (l.foldl (nx σ) e5) k) m := by
      intro m
      induction m with
      | zero => intro h1 _; rw [show σ 0 = 0 by omega]
      | succ m ih =>
        intro h1 h2
        by_cases h3 : σ 0 = m + 1
        · rw [h3]
        · rw [ih (by omega) (by omega)]
          show _ = sm _ m + σ (10 + m) * _
          rw [(H.2.2.1 m (by omega) (by omega)).2.1, Nat.zero_mul, Nat.add_zero]
    exact key 5 s5 (Nat.le_refl _)
  · have fl := H.2.1 (10 + i) (by omega) (by omega)
    unfold F_X3_countReadings_47
    rw [p2, T.1.1, if_neg (nI_ge hi (by omega)), c_mayEnd Tg H (by omega), bndS]
    have hsum : sm (fun k => σ (10 + k) * (l.foldl (nx σ) e5) k) (i + 1) = sm (fun k => σ (10 + k) * (l.foldl (nx σ) e5) k) i + σ (10 + i) * (l.foldl (nx σ) e5) i := rfl
    by_cases hf : σ (10 + i) = 1
    · rw [decide_eq_true hf]
      show (if (nI 1 : Int32) = 0 then _ else _) = _
      rw [if_neg (by decide), if_pos (inb_nI (by omega) (by decide)), lt_s0, nI_clamp (by omega), p3 i (by omega), lN_add, hsum, hf, Nat.one_mul, nI_1]
    · have hf0 : σ (10 + i) = 0 := by omega
      rw [decide_eq_false hf]
      show (if (nI 0 : Int32) = 0 then _ else _) = _
      rw [if_pos (by decide), show (0 : Int64) = lN 0 from rfl, lN_add, hsum, hf0, Nat.zero_mul, nI_1]
end T6
