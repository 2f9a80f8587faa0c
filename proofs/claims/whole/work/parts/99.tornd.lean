section TORND
variable {tp : List Nat} {σ : Nat → Nat} {nm : Nat → List Nat} {K : Im} {fd : List Nat} {fl : Nat} {tn : Option Tn} {h h' : Hp}
theorem CR.torn {q : Tn} (hA : AbOk tp σ nm K fd fl tn) (H : CR tp σ nm K fd fl tn h) (hs : ∀ a, a < 155 → a ∉ scrL → a ≠ 133 → a ≠ 134 → a ≠ 135 → h'.1 a = h.1 a ∧ h'.2.1 a = h.2.1 a) (hb : h'.1 123 8 = -1) (g : h'.1 133 0 = 1 ∧ h'.1 133 2 = nI q.1 ∧ h'.1 133 3 = nI q.2.1 ∧ h'.1 133 4 = nI q.2.2.1 ∧ h'.2.1 133 5 = lN q.2.2.2.1 ∧ (0 < q.2.2.2.1 → h'.1 134 1 = nI q.2.2.2.2.length ∧ lsI (h'.1 135) q.2.2.2.2)) : CR tp σ nm K fd fl (some q) h' := by
  obtain ⟨a, b, c, d, f, -, k⟩ := H
  have e : ∀ q, q < 155 → q ∉ scrL → q ≠ 133 → q ≠ 134 → q ≠ 135 → h'.1 q = h.1 q := fun q z1 z2 z3 z4 z5 => (hs q z1 z2 z3 z4 z5).1
  refine ⟨?_, ?_, ?_, ?_, ?_, g, hb⟩
  · rw [e 2 (by decide) (by decide) (by decide) (by decide) (by decide), e 3 (by decide) (by decide) (by decide) (by decide) (by decide)]
    exact a
  · refine b.kept hA.2.1.2.2.1 (fun q z1 z2 => hs q (by omega) ?_ (by omega) (by omega) (by omega))
    intro z
    have key : ∀ x ∈ scrL, x < 6 ∨ 40 < x := by decide
    have := key q z
    omega
  · intro i hi
    have ci := c i hi
    have hK := hA.2.2.1 i
    cases hk : K i with
    | none =>
      rw [hk] at ci
      show h'.1 112 i = 0
      rw [e 112 (by decide) (by decide) (by decide) (by decide) (by decide)]
      exact ci
    | some q =>
      rw [hk] at ci
      show h'.1 112 i = 1 ∧ MatRep h' (42 + 35 * i) q.1 q.2
      rw [e 112 (by decide) (by decide) (by decide) (by decide) (by decide)]
      refine ⟨ci.1, ci.2.kept (hK q hi hk).2.2.1 (fun z h1 h2 => hs z (by omega) ?_ (by omega) (by omega) (by omega))⟩
      intro zz
      have key : ∀ x ∈ scrL, x < 42 ∨ 111 < x := by decide
      have := key z zz
      omega
  · rw [e 1 (by decide) (by decide) (by decide) (by decide) (by decide)]
    exact d
  · rw [e 140 (by decide) (by decide) (by decide) (by decide) (by decide), e 141 (by decide) (by decide) (by decide) (by decide) (by decide)]
    exact f
theorem MR.torn {q : Tn} (H : MR tp σ nm K fd fl tn h) (hs : Same [155, 178, 179, 180, 181, 182] h h') (hf : ∀ j ∈ [2, 14, 31, 42], h'.1 155 j = h.1 155 j) (g : h'.1 155 53 = 1 ∧ h'.1 179 0 = nI q.1 ∧ h'.1 179 1 = nI q.2.1 ∧ h'.1 179 2 = nI q.2.2.1 ∧ h'.2.1 155 52 = lN q.2.2.2.1 ∧ (0 < q.2.2.2.1 → h'.1 155 51 = nI q.2.2.2.2.length ∧ lsI (h'.1 180) q.2.2.2.2)) : MR tp σ nm K fd fl (some q) h' := by
  obtain ⟨a, b, c, d, f, k, -, m, n⟩ := H
  have e : ∀ q, q ∉ [155, 178, 179, 180, 181, 182] → h'.1 q = h.1 q := fun q h2 => (hs q h2).1
  have l : ∀ q, q ∉ [155, 178, 179, 180, 181, 182] → h'.2.1 q = h.2.1 q := fun q h2 => (hs q h2).2.1
  refine ⟨?_, ?_, ?_, ?_, ?_, ?_, g, ?_, ?_⟩
  · rw [hf 2 (by decide), e 156 (by decide)]; exact a
  · rw [e 157 (by decide)]; exact b
  · rw [l 159 (by decide)]; exact c
  · rw [e 185 (by decide), e 183 (by decide), l 184 (by decide)]; exact d
  · rw [hf 14 (by decide)]; exact f
  · rw [hf 42 (by decide), e 176 (by decide)]; exact k
  · rw [l 160 (by decide)]; exact m
  · unfold Cache
    rw [hf 31 (by decide), e 164 (by decide), e 165 (by decide), e 166 (by decide)]; exact n
theorem AbOk.torn {q : Tn} (hA : AbOk tp σ nm K fd fl tn) (hq : q.1 < 256 ∧ q.2.1 < 8 ∧ q.2.2.1 < 8 ∧ q.2.2.2.1 < 2 ^ 62 ∧ q.2.2.2.2.length ≤ 12 ∧ ∀ x ∈ q.2.2.2.2, x < 8) : AbOk tp σ nm K fd fl (some q) := by
  obtain ⟨a, b, c, d, e, f, g⟩ := hA
  refine ⟨a, b, c, d, e, f, fun p hp => ?_⟩
  injection hp with hp
  rw [← hp]
  exact hq
/-- what torn tells -/
def tnQ (σ : Nat → Nat) (l : Nat → Option Nat) (n : Nat) : Tn := (mnt σ (xS σ l n), bts (suB (mnt σ (xS σ l n)) true) (σ 1), bts (suB (mnt σ (xS σ l n)) false) (σ 1), gb σ l n n 5, if 0 < gb σ l n n 5 then (List.range n).map (wr σ l n) else [])
theorem tnQ_row {l : Nat → Option Nat} {n : Nat} (hz : 0 < gb σ l n n 5) : (tnQ σ l n).2.2.2.2.length = n ∧ ∀ j, j < n → (tnQ σ l n).2.2.2.2.getD j 0 = wr σ l n j := by
  have e : (tnQ σ l n).2.2.2.2 = (List.range n).map (wr σ l n) := if_pos hz
  rw [e]
  refine ⟨by simp, fun j hj => ?_⟩
  simp [List.getD_eq_getElem?_getD, hj]
theorem tnQ_ok (H : TgOk σ nm) {l : Nat → Option Nat} {n : Nat} (hn : n ≤ 12) (hp : pb l n n ≤ 10) : (tnQ σ l n).1 < 256 ∧ (tnQ σ l n).2.1 < 8 ∧ (tnQ σ l n).2.2.1 < 8 ∧ (tnQ σ l n).2.2.2.1 < 2 ^ 62 ∧ (tnQ σ l n).2.2.2.2.length ≤ 12 ∧ ∀ x ∈ (tnQ σ l n).2.2.2.2, x < 8 := by
  have s3 := H.1.2.1
  have h8 := H.1.2.2.1
  have b8 : 2 ^ σ 1 ≤ 2 ^ 3 := Nat.pow_le_pow_right (by decide) s3
  refine ⟨mnt_lt _, Nat.lt_of_lt_of_le (bts_lt _) b8, Nat.lt_of_lt_of_le (bts_lt _) b8, Nat.lt_of_le_of_lt (gb_le H l n n 5 (by decide)) (p60 hp), ?_⟩
  by_cases hz : 0 < gb σ l n n 5
  · refine ⟨by rw [(tnQ_row hz).1]; exact hn, fun x hx => ?_⟩
    have e : (tnQ σ l n).2.2.2.2 = (List.range n).map (wr σ l n) := if_pos hz
    rw [e] at hx
    obtain ⟨j, q1, q2⟩ := List.mem_map.mp hx
    have hj := List.mem_range.mp q1
    have := (ch_step hj hz (ch_inv hz j (by omega))).2.1
    omega
  · have e : (tnQ σ l n).2.2.2.2 = [] := if_neg hz
    rw [e]
    exact ⟨Nat.zero_le _, fun x hx => by cases hx⟩
theorem x_1to12 (x : Int32) : (x < 1 ∨ ¬ x ≤ 12) ∨ ∃ n, 1 ≤ n ∧ n ≤ 12 ∧ x = nI n := by
  rcases pk_ix x (n := 13) (by omega) with h1 | h1 | ⟨j, h1, rfl⟩
  · refine Or.inl (Or.inl ?_)
    rw [fa_lt] at h1 ⊢
    have : (1 : Int32).toInt = 1 := rfl
    have : (0 : Int32).toInt = 0 := rfl
    omega
  · refine Or.inl (Or.inr ?_)
    rw [fa_le] at h1 ⊢
    have : (12 : Int32).toInt = 12 := rfl
    have : (nI 13).toInt = 13 := rfl
    omega
  · by_cases h2 : j = 0
    · subst h2; exact Or.inl (Or.inl (by decide))
    · exact Or.inr ⟨j, by omega, by omega, rfl⟩
theorem m_torn {p : Hp} (hA : AbOk tp σ nm K fd fl tn) (hM : MR tp σ nm K fd fl tn p) (x y : Int32) :
    (((∀ b, 1 ≤ b → b ≤ σ 3 → x ≠ nI b) ∨ (∀ n, 1 ≤ n → n ≤ 12 → y ≠ nI n)) → ∃ h3, f_X13_torn x y p = some (-1, h3) ∧ MR [] σ nm K fd fl tn h3 ∧ Lo p h3) ∧
    ∀ b n, x = nI b → 1 ≤ b → b ≤ σ 3 → y = nI n → 1 ≤ n → n ≤ 12 →
      (¬ (okR σ tp 12 ∧ cu (σ 3) (σ 4) b n = tp.length) → ∃ h3, f_X13_torn x y p = some (-1, h3) ∧ MR [] σ nm K fd fl tn h3 ∧ Lo p h3) ∧
      ((okR σ tp 12 ∧ cu (σ 3) (σ 4) b n = tp.length) → ∃ h3, f_X13_torn x y p = some (lN (tot σ (lT (σ 3) (σ 4) b tp) n), h3) ∧ MR [] σ nm K fd fl (some (tnQ σ (lT (σ 3) (σ 4) b tp) n)) h3 ∧ Lo p h3) := by
  have H := hA.2.1.1
  have ht := hA.1.1
  have hb := hA.1.2
  obtain ⟨-, -, h8, e3, e3', e4, e4'⟩ := H.1
  have M1 := hM.keep (th_Eq 0)
  obtain ⟨h2, e2, M2, s2, s2', r3, r4, r5, r6, r7⟩ := m_taken 940 M1
  have L2 : Lo p h2 := (th_Lo 0).tr (s2.lo (by decide))
  have m3 := M2.2.1 3 (by omega)
  have RB : f_X13_torn x y p = bnd (f_X13_isIn x 1 (nI (σ 3)) h2) fun v4 h3 => (if v4 = 0 then some ((-1), h3) else bnd (f_X13_isIn y 1 12 h3) fun v7 h6 => (if v7 = 0 then some ((-1), h6) else bnv (f_X13_settle h6) fun h9 => itr3 (F_X13_torn_49 x y (fun h26 => some ((-1), h26)) (fun v28 h27 => if v28 = (h27.1 155 3) then bnd (f_X13_meantTorn y h27) fun v31 h30 => lt (sI h30 179 ((0 : Int32).toNatClampNeg) v31) fun h32 => lt (sI h32 179 ((1 : Int32).toNatClampNeg) 0) fun h33 => lt (sI h33 179 ((2 : Int32).toNatClampNeg) 0) fun h34 => itr2 (F_X13_torn_167 y v31 (fun h47 => B_X13_torn_245 y h47)) N0 0 h34 else some ((-1), h27))) N0 0 0 h9)) := by
    unfold f_X13_torn
    rw [lt_s1, e2, bnvS, show (3 : Int32).toNatClampNeg = 3 from lc (n := 3) (by decide), m3]
  refine ⟨fun hn => ⟨h2, ?_, M2, L2⟩, fun b n hx b1 hb2 hy n1 n2 => ?_⟩
  · rcases m_isIn x (a := 1) (b := σ 3) (lo := 1) (hi := nI (σ 3)) h2 rfl rfl (by omega) (by omega) with ⟨e, -⟩ | ⟨j, q1, q2, q3, e⟩
    · rw [RB, e, bndS, if_pos rfl]
    · rcases hn with hn | hn
      · exact absurd q3 (hn j q1 q2)
      · rw [RB, e, bndS, if_neg (by decide)]
        rcases m_isIn y (a := 1) (b := 12) (lo := 1) (hi := 12) h2 rfl rfl (by omega) (by omega) with ⟨e, -⟩ | ⟨j, q1, q2, q3, -⟩
        · rw [e, bndS, if_pos rfl]
        · exact absurd q3 (hn j q1 q2)
  · subst hx
    subst hy
    have R2 : f_X13_isIn (nI b) 1 (nI (σ 3)) h2 = some (1, h2) := m_isIn_t h2 (a := 1) (b := σ 3) rfl rfl rfl b1 hb2 (by omega)
    have R3 : f_X13_isIn (nI n) 1 12 h2 = some (1, h2) := m_isIn_t h2 (a := 1) (b := 12) rfl rfl rfl n1 n2 (by omega)
    obtain ⟨h3, f1, z1, z2, z3, z4, z5⟩ := m_settle M2 H
    have M3 := M2.settled z1 z2 z3 z4 z5
    have L3 : Lo p h3 := L2.tr (z1.lo (by decide))
    have TL := m_tornL (h := h3) (tp := tp) (b := b) (n := n) z5.1 z5.2.1 (by rw [z3 3 (by decide) (by decide) (by decide)]; exact r3) (by rw [(z1 156 (by decide)).1]; exact r6) (M3.2.1 2 (by omega)) H ht hb (by omega) n2 (fun v28 h27 => if v28 = (h27.1 155 3) then bnd (f_X13_meantTorn (nI n) h27) fun v31 h30 => lt (sI h30 179 ((0 : Int32).toNatClampNeg) v31) fun h32 => lt (sI h32 179 ((1 : Int32).toNatClampNeg) 0) fun h33 => lt (sI h33 179 ((2 : Int32).toNatClampNeg) 0) fun h34 => itr2 (F_X13_torn_167 (nI n) v31 (fun h47 => B_X13_torn_245 (nI n) h47)) N0 0 h34 else some ((-1), h27))
    have RB2 : f_X13_torn (nI b) (nI n) p = itr3 (F_X13_torn_49 (nI b) (nI n) (fun h26 => some ((-1), h26)) (fun v28 h27 => if v28 = (h27.1 155 3) then bnd (f_X13_meantTorn (nI n) h27) fun v31 h30 => lt (sI h30 179 ((0 : Int32).toNatClampNeg) v31) fun h32 => lt (sI h32 179 ((1 : Int32).toNatClampNeg) 0) fun h33 => lt (sI h33 179 ((2 : Int32).toNatClampNeg) 0) fun h34 => itr2 (F_X13_torn_167 (nI n) v31 (fun h47 => B_X13_torn_245 (nI n) h47)) N0 0 h34 else some ((-1), h27))) N0 (nI 0) (nI 0) h3 := by
      rw [RB, R2, bndS, if_neg (by decide), R3, bndS, if_neg (by decide), f1, bnvS]
      rfl
    have cl := cu_le (σ 3) (σ 4) b n
    have sc : ∀ h4, Same [178] h3 h4 → h4.2 = h3.2 → MR [] σ nm K fd fl tn h4 ∧ Lo p h4 := fun h4 a1 a2 => ⟨M3.keep (EqM.ofSame a1 (by decide) (fun j _ => by rw [(a1 155 (by decide)).1]) (by rw [a2])), L3.tr (a1.lo (by decide))⟩
    have g43 : ∀ h4, Same [178] h3 h4 → h4.1 155 3 = nI tp.length := fun h4 t1 => by rw [(t1 155 (by decide)).1, z3 3 (by decide) (by decide) (by decide)]; exact r3
    refine ⟨fun acc => ?_, fun acc => ?_⟩
    · have ng : ¬ ((∀ i, i < n → gdB σ b tp i = true) ∧ cu (σ 3) (σ 4) b n = tp.length) := fun z => acc ((gd_all n2).mpr z)
      by_cases gd : ∀ i, i < n → gdB σ b tp i = true
      · obtain ⟨h4, E4, t1, t2, t3⟩ := TL.1 gd
        obtain ⟨M4, L4⟩ := sc h4 t1 t2
        refine ⟨h4, ?_, M4, L4⟩
        rw [RB2, E4, g43 h4 t1, if_neg (fun z => ng ⟨gd, (nI_eq (by omega) (by omega)).mp z⟩)]
      · obtain ⟨h4, E4, t1, t2⟩ := TL.2 gd
        obtain ⟨M4, L4⟩ := sc h4 t1 t2
        exact ⟨h4, RB2.trans E4, M4, L4⟩
    · have gd := ((gd_all n2).mp acc).1
      obtain ⟨h4, E4, t1, t2, t3⟩ := TL.1 gd
      obtain ⟨M4, L4⟩ := sc h4 t1 t2
      have mm : ∀ x ∈ tp, x < σ 2 := mem_getD acc.1.2
      have m8 : ∀ x ∈ tp, x < 8 := fun x hx => Nat.lt_of_lt_of_le (mm x hx) h8
      have hL : LtOk (lT (σ 3) (σ 4) b tp) := lT_ok m8
      have hp : pb (lT (σ 3) (σ 4) b tp) n n ≤ 10 := by rw [pb_s]; exact pbs_10 (σ 3) (by omega) (σ 4) (by omega) b (by omega) n (by omega) e4'
      have B4 : TM σ (lT (σ 3) (σ 4) b tp) n h4 := ⟨M4.2.1, t3⟩
      have C4 : Cache σ h4 := by
        have := z5.2.2
        unfold Cache
        rw [(t1 166 (by decide)).1, (t1 165 (by decide)).1, (t1 164 (by decide)).1]
        exact this
      have mt := m_meantTorn B4 C4 hL H n2
      have S5 : Same [179] h4 (sI (sI (sI h4 179 0 (nI (mnt σ (xS σ (lT (σ 3) (σ 4) b tp) n)))) 179 1 (nI 0)) 179 2 (nI 0)) := ((Same.ofI (by decide)).tr (Same.ofI (by decide))).tr (Same.ofI (by decide))
      have B5 := B4.same S5 (by decide)
      obtain ⟨h6, E6, u1, u2, u3, u4, u5⟩ := m_sure (x2 := nI n) (v := mnt σ (xS σ (lT (σ 3) (σ 4) b tp) n)) B5.1 H (mnt_lt _) (by rw [sI_nk1 (by decide)]; exact sI_s) sI_s (fun h47 => B_X13_torn_245 (nI n) h47)
      have B6 := B5.same u1 (by decide)
      obtain ⟨h7, E7, v1, v2, v3, v4⟩ := m_likely B6 hL H n1 n2 hp
      have B7 := B6.same v1 (by decide)
      have S8 : Same [155] h7 (sI h7 155 53 (nI 1)) := Same.ofI (by decide)
      obtain ⟨h9, E9, w1, w2⟩ := m_countTorn (B7.same S8 (by decide)) hL H n1 n2
      have S9 : Same [155, 178, 179, 180, 181, 182] h4 h9 := by
        refine Same.tr ?_ (w1.mono (fun a h1 => by simp only [List.mem_cons, List.not_mem_nil, or_false] at h1 ⊢; omega))
        refine Same.tr ?_ (S8.mono (fun a h1 => by simp only [List.mem_cons, List.not_mem_nil, or_false] at h1 ⊢; omega))
        refine Same.tr ?_ (v1.mono (fun a h1 => by simp only [List.mem_cons, List.not_mem_nil, or_false] at h1 ⊢; omega))
        refine Same.tr ?_ (u1.mono (fun a h1 => by simp only [List.mem_cons, List.not_mem_nil, or_false] at h1 ⊢; omega))
        exact S5.mono (fun a h1 => by simp only [List.mem_cons, List.not_mem_nil, or_false] at h1 ⊢; omega)
      have f155 : ∀ j, j ≠ 51 → j ≠ 53 → h9.1 155 j = h4.1 155 j := fun j j1 j2 => by
        rw [w2, sI_nk1 j2, v2 j j1, (u1 155 (by decide)).1, (S5 155 (by decide)).1]
      have f179 : ∀ j, h9.1 179 j = h6.1 179 j := fun j => by rw [w2, sI_ne1 (by decide), (v1 179 (by decide)).1]
      refine ⟨h9, ?_, M4.torn S9 (fun j hj => f155 j (fun z => by subst z; revert hj; decide) (fun z => by subst z; revert hj; decide)) ⟨?_, ?_, ?_, ?_, ?_, fun hz => ⟨?_, fun j hj => ?_⟩⟩, L4.tr (S9.lo (by decide))⟩
      · rw [RB2, E4, g43 h4 t1, if_pos (by rw [acc.2]), mt, bndS, show (0 : Int32).toNatClampNeg = 0 from rfl, show (1 : Int32).toNatClampNeg = 1 from rfl, show (2 : Int32).toNatClampNeg = 2 from rfl, lt_s1, lt_s1, lt_s1, li_0]
        rw [E6]
        unfold B_X13_torn_245
        rw [E7, bnvS, lt_s1, li_1, E9, bndS]
      · rw [w2]; exact sI_s
      · rw [f179, u3, sI_nk1 (by decide), sI_nk1 (by decide)]; exact sI_s
      · rw [f179]; exact u4
      · rw [f179]; exact u5
      · rw [(w1 155 (by decide)).2.1]; exact v3
      · rw [w2, sI_nk1 (by decide), (tnQ_row hz).1]; exact (v4 hz).1
      · rw [(tnQ_row hz).1] at hj
        rw [w2, sI_ne1 (by decide), (tnQ_row hz).2 j hj]; exact (v4 hz).2 j hj
theorem st_torn (x y : Int32) (hI : Inv h) : ∃ v h1 h2, f_X12_torn x y h = some (v, h1) ∧ f_X13_torn x y h1 = some (v, h2) ∧ Inv h2 := by
  obtain ⟨tp, σ, nm, K, fd, fl, tn, hA, hC, hM⟩ := hI
  have H := hA.2.1.1
  obtain ⟨-, -, h8, e3, e3', e4, e4'⟩ := H.1
  have ht := hA.1.1
  obtain ⟨g, cr, C1, S1⟩ := c_rowFromTape (m := 12) hA hC (by omega)
  have g9 : g.1 9 0 = nI (σ 3) := C1.2.1.1.1.2.2.2.1
  have g91 : g.1 9 1 = nI (σ 4) := C1.2.1.1.1.2.2.2.2
  have Mg := hM.hi (S1.hi (by decide))
  have NO : f_X12_torn x y h = some (-1, g) → (∃ h3, f_X13_torn x y g = some (-1, h3) ∧ MR [] σ nm K fd fl tn h3 ∧ Lo g h3) → ∃ v h1 h2, f_X12_torn x y h = some (v, h1) ∧ f_X13_torn x y h1 = some (v, h2) ∧ Inv h2 := fun a ⟨h3, b, c, d⟩ => ⟨-1, g, h3, a, b, [], σ, nm, K, fd, fl, tn, hA.empty, C1.lo hA.empty d, c⟩
  have z0 : nI 0 = (0 : Int32) := rfl
  have MT := m_torn hA Mg x y
  rcases c_beg (h := g) x g9 (by omega) with ⟨b, b1, hb2, rfl, c1⟩ | ⟨c1, hbn⟩
  · rcases x_1to12 y with hy | ⟨n, n1, n2, rfl⟩
    · refine NO ?_ (MT.1 (Or.inr (fun j q1 q2 z => ?_)))
      · unfold f_X12_torn
        rcases cr with ⟨q, -⟩ | ⟨q, -⟩
        · rw [show f_X12_rowFromTape 12 h = some (nI 1, g) from q, bndS, if_neg (by decide), c1, bndS, if_neg (by decide)]
          rcases hy with hy | hy
          · rw [if_pos hy]
          · by_cases h1 : y < 1
            · rw [if_pos h1]
            · rw [if_neg h1, if_neg hy]
        · rw [show f_X12_rowFromTape 12 h = some (nI 0, g) from q, bndS, if_pos z0]
      · subst z
        rcases hy with hy | hy
        · exact absurd hy (nI_nlt (b := 1) q1 (by omega))
        · exact hy (nI_le (b := 12) q2 (by omega))
    · have lo := c_leftOf (h := g) (x := 9) (n := n) (b := b) g9 g91 (by omega) (by omega) (by omega) (by omega) (by omega)
      have cl := cu_le (σ 3) (σ 4) b n
      have CB : g.1 153 1 = nI tp.length → f_X12_rowFromTape 12 h = some (nI 1, g) → f_X12_torn (nI b) (nI n) h = (if nI (cu (σ 3) (σ 4) b n) = nI tp.length then bnv (f_X8_look 7 153 (nI b) (nI n) g) fun h12 => some (h12.2.1 133 1, h12) else some (-1, g)) := fun q2 q => by
        unfold f_X12_torn
        rw [q, bndS, if_neg (by decide), c1, bndS, if_neg (by decide), if_neg (show ¬ nI n < 1 from nI_nlt (b := 1) n1 (by omega)), if_pos (show nI n ≤ 12 from nI_le (b := 12) n2 (by omega)), lo, bndS, q2]
      by_cases acc : okR σ tp 12 ∧ cu (σ 3) (σ 4) b n = tp.length
      · rcases cr with ⟨q, -, q2, q3⟩ | ⟨-, q⟩
        · have mm : ∀ x ∈ tp, x < σ 2 := mem_getD acc.1.2
          have m8 : ∀ x ∈ tp, x < 8 := fun x hx => Nat.lt_of_lt_of_le (mm x hx) h8
          have hp : pb (lT (σ 3) (σ 4) b tp) n n ≤ 10 := by rw [pb_s]; exact pbs_10 (σ 3) (by omega) (σ 4) (by omega) b (by omega) n (by omega) e4'
          obtain ⟨hc, E5, u1, u2, u3, u4, u5, u6, u7, u8⟩ := c_look (b := b) (n := n) C1.2.1.1 H (by omega) n2 q2 q3 acc.2 m8
          have Mc := hM.hi ((S1.hi (by decide)).tr (u1.hi (by decide)))
          obtain ⟨h9, E9, M9, L9⟩ := ((m_torn hA Mc (nI b) (nI n)).2 b n rfl b1 hb2 rfl n1 n2).2 acc
          have A9 : AbOk [] σ nm K fd fl (some (tnQ σ (lT (σ 3) (σ 4) b tp) n)) := hA.empty.torn (tnQ_ok H n2 hp)
          have C9 : CR [] σ nm K fd fl (some (tnQ σ (lT (σ 3) (σ 4) b tp) n)) hc := C1.torn hA.empty (fun a a1 a2 a3 a4 a5 => by
            have := u1 a (by
              intro z
              simp only [List.mem_cons, List.not_mem_nil, or_false] at z
              rcases z with z | z | z | z | z | z | z
              · exact a3 z
              · exact a4 z
              · exact a5 z
              · exact a2 (by rw [z]; decide)
              · exact a2 (by rw [z]; decide)
              · exact a2 (by rw [z]; decide)
              · exact a2 (by rw [z]; decide))
            exact ⟨this.1, this.2.1⟩) (by rw [(u1 123 (by decide)).1]; exact C1.2.2.2.2.2.2) ⟨u3, u4, u5, u6, u7, fun hz => ⟨by rw [(tnQ_row hz).1]; exact (u8 hz).1, fun j hj => by
              rw [(tnQ_row hz).1] at hj
              rw [(tnQ_row hz).2 j hj]; exact (u8 hz).2 j hj⟩⟩
          refine ⟨_, hc, h9, ?_, E9, [], σ, nm, K, fd, fl, _, A9, C9.lo A9 L9, M9⟩
          rw [CB q2 q, if_pos (by rw [acc.2]), E5, bnvS, u2]
        · exact absurd acc.1 q
      · refine NO ?_ ((MT.2 b n rfl b1 hb2 rfl n1 n2).1 acc)
        rcases cr with ⟨q, q1, q2, -⟩ | ⟨q, -⟩
        · rw [CB q2 q, if_neg (fun z => acc ⟨q1, (nI_eq (by omega) (by omega)).mp z⟩)]
        · unfold f_X12_torn
          rw [show f_X12_rowFromTape 12 h = some (nI 0, g) from q, bndS, if_pos z0]
  · refine NO ?_ (MT.1 (Or.inl hbn))
    unfold f_X12_torn
    rcases cr with ⟨q, -⟩ | ⟨q, -⟩
    · rw [show f_X12_rowFromTape 12 h = some (nI 1, g) from q, bndS, if_neg (by decide), c1, bndS, if_pos z0]
    · rw [show f_X12_rowFromTape 12 h = some (nI 0, g) from q, bndS, if_pos z0]
end TORND
