section WKB
variable {tp : List Nat} {σ : Nat → Nat} {nm : Nat → List Nat} {K : Im} {fd : List Nat} {fl : Nat} {tn : Option Tn} {h h' : Hp}
theorem m_textMeansT {b : Nat} (hM : MR tp σ nm K fd fl tn h) (hS : SgOk σ nm) (b1 : b ≤ σ 3) : ∃ h', f_X13_textMeans (nI b) h = some (nI (mean σ (TX σ b)), h') ∧ MR tp σ nm K fd fl tn h' ∧ Lo h h' ∧ h'.1 155 0 = h.1 155 0 := by
  have H := hS.1
  have e5 := H.1.2.2.2.2.1
  obtain ⟨h1, e1, s1, s2, s3, s4, s5⟩ := m_settle hM H
  have M1 := hM.settled s1 s2 s3 s4 s5
  obtain ⟨h2, e2, l1, l2, ⟨l3, l3'⟩, l4, l5, l6⟩ := m_leaveText (b := b) M1.2.1 H hS.2.1 (by omega)
  have q2 : EqM h1 h2 := EqM.ofSame l3 (by decide) (fun j hj => l4 j (fun z => by subst z; revert hj; decide) (fun z => by subst z; revert hj; decide) (fun z => by subst z; revert hj; decide)) (by rw [l3'])
  have M2 := M1.keep q2
  have C2 : Cache σ h2 := by
    have := s5.2.2
    unfold Cache
    rw [(l3 166 (by decide)).1, (l3 165 (by decide)).1, (l3 164 (by decide)).1]
    exact this
  have e3 := m_meant (a := 162) (l := TX σ b) (h := h2) (fun k hk => M2.2.1 k (by omega)) C2 H (TX_mem hS b) (TX_len hS b) (by decide) l2
  refine ⟨h2, ?_, M2, (s1.lo (by decide)).tr (l3.lo (by decide)), ?_⟩
  · unfold f_X13_textMeans
    rw [e1, bnvS, e2, bnvS, l1, e3, bndS]
  · rw [l4 0 (by decide) (by decide) (by decide), s3 0 (by decide) (by decide) (by decide)]
/-! the greatest common divisor; the class divides by it at once -/
theorem c_least {u a b : Nat} (hb : 0 < b) (hu : u < 1000) (ha : a < 1000) (hb2 : b < 1000) : f_X12_inLeastNumbers (nI u) (nI a) (nI b) h = some (nI (u / Nat.gcd a b), h) := by
  have g0 : 0 < Nat.gcd a b := Nat.gcd_pos_of_pos_right a hb
  have gl : Nat.gcd a b ≤ b := Nat.le_of_dvd hb (Nat.gcd_dvd_right a b)
  obtain ⟨g, hg⟩ : ∃ g, g = Nat.gcd a b := ⟨_, rfl⟩
  rw [← hg] at g0 gl ⊢
  unfold f_X12_inLeastNumbers
  refine sq2 (b - g) (fun i => nI (b - i)) (fun _ => h) (fun self => ?_) (fun self i hi => ?_) (by omega) rfl rfl
  · rw [show b - (b - g) = g by omega]
    unfold F_X12_inLeastNumbers_2
    by_cases g1 : g = 1
    · rw [g1, if_pos (show nI 1 ≤ 1 by decide), Nat.div_one]
    · have da : a % g = 0 := Nat.mod_eq_zero_of_dvd (by rw [hg]; exact Nat.gcd_dvd_left a b)
      have db : b % g = 0 := Nat.mod_eq_zero_of_dvd (by rw [hg]; exact Nat.gcd_dvd_right a b)
      have nzg : nz (nI g) = true := of_eq_true (nzT g0 (by omega))
      rw [if_neg (show ¬ nI g ≤ 1 from nI_ge (b := g) (a := 1) (by omega) (by omega)), if_pos nzg, remN (by omega) g0 (by omega), da, if_pos (show nI 0 = 0 from rfl), if_pos nzg, remN (by omega) g0 (by omega), db, if_pos (show nI 0 = 0 from rfl)]
      show (if nz (nI g) = true then some (nI u / nI g, h) else none) = _
      rw [if_pos nzg, divN (by omega) g0 (by omega)]
  · obtain ⟨d, hd⟩ : ∃ d, d = b - i := ⟨_, rfl⟩
    have dg : g < d := by omega
    have nzd : nz (nI d) = true := of_eq_true (nzT (by omega) (by omega))
    have ndv : ¬ (a % d = 0 ∧ b % d = 0) := fun z => by
      have := Nat.le_of_dvd (by omega) (Nat.dvd_gcd (Nat.dvd_of_mod_eq_zero z.1) (Nat.dvd_of_mod_eq_zero z.2))
      omega
    have la : a % d < d := Nat.mod_lt _ (by omega)
    have lb : b % d < d := Nat.mod_lt _ (by omega)
    have dm : nI d + (-1) = nI (b - (i + 1)) := by rw [nI_m1 (by omega)]; congr 1; omega
    rw [← hd]
    unfold F_X12_inLeastNumbers_2
    rw [if_neg (show ¬ nI d ≤ 1 from nI_ge (b := d) (a := 1) (by omega) (by omega)), if_pos nzd, remN (by omega) (by omega) (by omega), dm]
    by_cases a0 : a % d = 0
    · rw [if_pos (show nI (a % d) = 0 by rw [a0]; rfl), if_pos nzd, remN (by omega) (by omega) (by omega), if_neg (show ¬ nI (b % d) = 0 from fun z => ndv ⟨a0, (nI_eq (b := 0) (by omega) (by omega)).mp z⟩)]
    · rw [if_neg (show ¬ nI (a % d) = 0 from fun z => a0 ((nI_eq (b := 0) (by omega) (by omega)).mp z))]
theorem m_gcd1 {x y : Nat} (hx : x < 1000) (hy : y < 1000) (k21 : Int32 → Hp → Option (Int32 × Hp)) (self : Int32 → Int32 → Hp → Option (Int32 × Hp)) : F_X13_common_4 k21 self (nI x) (nI y) h = if y = 0 then k21 (nI x) h else self (nI y) (nI (x % y)) h := by
  unfold F_X13_common_4
  by_cases y0 : y = 0
  · rw [if_pos (show nI y = 0 by rw [y0]; rfl), if_pos y0]
  · rw [if_neg (show ¬ nI y = 0 from fun z => y0 ((nI_eq (b := 0) (by omega) (by omega)).mp z)), if_neg y0, if_pos (of_eq_true (nzT (by omega) (by omega))), remN (by omega) (by omega) (by omega), lt_s1]
theorem m_gcdL (k21 : Int32 → Hp → Option (Int32 × Hp)) : ∀ n y x f, y ≤ n → y < f → x < 1000 → y < 1000 → itr3 (F_X13_common_4 k21) f (nI x) (nI y) h = k21 (nI (Nat.gcd y x)) h := by
  intro n
  induction n with
  | zero =>
    intro y x f hy hf hx hy2
    obtain ⟨f, rfl⟩ : ∃ q, f = q + 1 := ⟨f - 1, by omega⟩
    have y0 : y = 0 := by omega
    rw [itr3_s, m_gcd1 hx hy2, if_pos y0, y0, Nat.gcd_zero_left]
  | succ n ih =>
    intro y x f hy hf hx hy2
    obtain ⟨f, rfl⟩ : ∃ q, f = q + 1 := ⟨f - 1, by omega⟩
    rw [itr3_s, m_gcd1 hx hy2]
    by_cases y0 : y = 0
    · rw [if_pos y0, y0, Nat.gcd_zero_left]
    · have lm : x % y < y := Nat.mod_lt _ (by omega)
      rw [if_neg y0, ih (x % y) y f (by omega) (by omega) (by omega) (by omega), ← Nat.gcd_rec]
theorem m_gcd {x y : Nat} (hx : x < 1000) (hy : y < 1000) : f_X13_common (nI x) (nI y) h = some (nI (Nat.gcd y x), h) := by
  unfold f_X13_common
  have nb := N0_big
  exact m_gcdL (fun v5 h4 => some (v5, h4)) y y x N0 (Nat.le_refl _) (by omega) hx hy
/-! KNOWN -/
def kwAl (σ : Nat → Nat) : Nat → Nat
  | 0 => 0
  | n + 1 => kwAl σ n + σ (432 + n)
def kwUp (σ : Nat → Nat) (m : Nat) : Nat → Nat
  | 0 => 0
  | n + 1 => kwUp σ m n + (if mean σ (TX σ (n + 1)) = 2 ^ m then σ (432 + n) else 0)
theorem kwAl_le (H : TgOk σ nm) : ∀ n, n ≤ 5 → kwAl σ n ≤ 9 * n
  | 0, _ => Nat.le_refl _
  | n + 1, hn => by
    have a := kwAl_le H n (by omega)
    have b := H.2.2.2.2.2.2.2 (n + 1) (by omega) (by omega)
    rw [show 431 + (n + 1) = 432 + n by omega] at b
    show kwAl σ n + σ (432 + n) ≤ _
    omega
theorem kwUp_le (m : Nat) : ∀ n, kwUp σ m n ≤ kwAl σ n
  | 0 => Nat.le_refl _
  | n + 1 => by
    have a := kwUp_le m n
    show kwUp σ m n + (if mean σ (TX σ (n + 1)) = 2 ^ m then σ (432 + n) else 0) ≤ kwAl σ n + σ (432 + n)
    by_cases z : mean σ (TX σ (n + 1)) = 2 ^ m
    · rw [if_pos z]; omega
    · rw [if_neg z]; omega
theorem th_1 : f_X13_throwsIf 1 h = some (1, sI h 155 0 1) := by
  unfold f_X13_throwsIf B_X13_throwsIf_10
  rw [if_neg (show ¬ (1 : Int32) = 0 by decide), lt_s1, if_pos (show isZ 1 = true by decide)]
theorem th_0 : f_X13_throwsIf 0 h = some (0, sI h 155 0 0) := by
  unfold f_X13_throwsIf B_X13_throwsIf_10
  rw [if_pos (show (0 : Int32) = 0 from rfl), lt_s1, if_pos (show isZ 0 = true by decide)]
theorem kw_loop {m w : Nat} (hm : m < 8) (hS : SgOk σ nm) (k108 : Int32 → Int32 → Hp → Option (Int32 × Hp)) : ∀ d i (g : Hp) f, i + d = σ 3 → d < f → MR tp σ nm K fd fl tn g → ∃ g', itr4 (F_X13_known_41 (nI m) (nI w) k108) f (nI (kwUp σ m i)) (nI (kwAl σ i)) (nI (1 + i)) g = k108 (nI (kwUp σ m (σ 3))) (nI (kwAl σ (σ 3))) g' ∧ MR tp σ nm K fd fl tn g' ∧ Lo g g' ∧ g'.1 155 0 = g.1 155 0 := by
  have e5 := hS.1.1.2.2.2.2.1
  have pm : 2 ^ m < 1000 := by
    have : 2 ^ m ≤ 2 ^ 7 := Nat.pow_le_pow_right (by decide) (by omega)
    omega
  intro d
  induction d with
  | zero =>
    intro i g f hd hf M
    obtain ⟨f, rfl⟩ : ∃ q, f = q + 1 := ⟨f - 1, by omega⟩
    refine ⟨g, ?_, M, Lo.rf, rfl⟩
    rw [itr4_s]
    unfold F_X13_known_41
    rw [show (3 : Int32).toNatClampNeg = 3 from lc (n := 3) (by decide), M.2.1 3 (by omega), if_pos (nI_lt (by omega) (by omega)), show i = σ 3 by omega]
  | succ d ih =>
    intro i g f hd hf M
    obtain ⟨f, rfl⟩ : ∃ q, f = q + 1 := ⟨f - 1, by omega⟩
    have ml := mean_lt (σ := σ) (TX σ (1 + i))
    obtain ⟨g2, f2, N2, O2, Z2⟩ := m_textMeansT (b := 1 + i) M hS (by omega)
    obtain ⟨g3, f3, N3, O3, Z3⟩ := ih (i + 1) g2 f (by omega) (by omega) N2
    refine ⟨g3, ?_, N3, O2.tr O3, Z3.trans Z2⟩
    have cl : g2.1 157 (432 + i) = nI (σ (432 + i)) := N2.2.1 _ (by omega)
    have fin : ∀ t0 q, t0 = nI q → kwUp σ m i + q = kwUp σ m (i + 1) → B_X13_known_82 (nI m) (nI w) k108 (itr4 (F_X13_known_41 (nI m) (nI w) k108) f) (nI (kwAl σ i)) (nI (1 + i)) t0 (nI (kwUp σ m i)) g2 = k108 (nI (kwUp σ m (σ 3))) (nI (kwAl σ (σ 3))) g3 := fun t0 q ht hu => by
      unfold B_X13_known_82
      rw [ht, nI_add, hu, lt_s1, show (432 + nI (1 + i) - 1 : Int32) = nI (432 + i) by rw [li_432, nI_add, li_1, subN (by omega), show 432 + (1 + i) - 1 = 432 + i by omega], if_pos (inb_nI (by omega) (by decide)), clp (by omega), cl, nI_add, lt_s1, nI_1, show 1 + i + 1 = 1 + (i + 1) by omega]
      exact f3
    rw [itr4_s]
    show F_X13_known_41 (nI m) (nI w) k108 (itr4 (F_X13_known_41 (nI m) (nI w) k108) f) (nI (kwUp σ m i)) (nI (kwAl σ i)) (nI (1 + i)) g = _
    have st : F_X13_known_41 (nI m) (nI w) k108 (itr4 (F_X13_known_41 (nI m) (nI w) k108) f) (nI (kwUp σ m i)) (nI (kwAl σ i)) (nI (1 + i)) g = if mean σ (TX σ (1 + i)) = 2 ^ m then B_X13_known_82 (nI m) (nI w) k108 (itr4 (F_X13_known_41 (nI m) (nI w) k108) f) (nI (kwAl σ i)) (nI (1 + i)) (nI (σ (432 + i))) (nI (kwUp σ m i)) g2 else B_X13_known_82 (nI m) (nI w) k108 (itr4 (F_X13_known_41 (nI m) (nI w) k108) f) (nI (kwAl σ i)) (nI (1 + i)) 0 (nI (kwUp σ m i)) g2 := by
      rw [show F_X13_known_41 (nI m) (nI w) k108 (itr4 (F_X13_known_41 (nI m) (nI w) k108) f) (nI (kwUp σ m i)) (nI (kwAl σ i)) (nI (1 + i)) g = (if (g.1 157 ((3 : Int32).toNatClampNeg)) < nI (1 + i) then k108 (nI (kwUp σ m i)) (nI (kwAl σ i)) g else bnd (f_X13_textMeans (nI (1 + i)) g) fun v9 h8 => (if v9 = (jshl 1 (nI m)) then if inb ((432 + nI (1 + i)) - 1) 713 = true then B_X13_known_82 (nI m) (nI w) k108 (itr4 (F_X13_known_41 (nI m) (nI w) k108) f) (nI (kwAl σ i)) (nI (1 + i)) (h8.1 157 (((432 + nI (1 + i)) - 1).toNatClampNeg)) (nI (kwUp σ m i)) h8 else none else B_X13_known_82 (nI m) (nI w) k108 (itr4 (F_X13_known_41 (nI m) (nI w) k108) f) (nI (kwAl σ i)) (nI (1 + i)) 0 (nI (kwUp σ m i)) h8)) from rfl]
      rw [show (3 : Int32).toNatClampNeg = 3 from lc (n := 3) (by decide), M.2.1 3 (by omega), if_neg (nI_nlt (by omega) (by omega)), f2, bndS, show (432 + nI (1 + i) - 1 : Int32) = nI (432 + i) by rw [li_432, nI_add, li_1, subN (by omega), show 432 + (1 + i) - 1 = 432 + i by omega], if_pos (inb_nI (by omega) (by decide)), clp (by omega), cl, show jshl 1 (nI m) = nI (2 ^ m) by rw [li_1, shl1 (by omega)]]
      by_cases z : mean σ (TX σ (1 + i)) = 2 ^ m
      · rw [if_pos (show nI (mean σ (TX σ (1 + i))) = nI (2 ^ m) by rw [z]), if_pos z]
      · rw [if_neg (show ¬ nI (mean σ (TX σ (1 + i))) = nI (2 ^ m) from fun y => z ((nI_eq (by omega) (by omega)).mp y)), if_neg z]
    have ku : kwUp σ m (i + 1) = kwUp σ m i + (if mean σ (TX σ (i + 1)) = 2 ^ m then σ (432 + i) else 0) := rfl
    rw [show i + 1 = 1 + i by omega] at ku
    rw [st]
    by_cases z : mean σ (TX σ (1 + i)) = 2 ^ m
    · rw [if_pos z]
      rw [if_pos z] at ku
      exact fin _ _ rfl (by rw [show i + 1 = 1 + i by omega]; exact ku.symm)
    · rw [if_neg z]
      rw [if_neg z] at ku
      exact fin _ 0 rfl (by rw [show i + 1 = 1 + i by omega]; exact ku.symm)
/-- how the class comes to throw: no such MEANING, or what -/
def badK (x y : Int32) (h : Hp) : Prop := f_X12_isMeaning x h = some (0, h) ∨ (f_X12_isMeaning x h = some (1, h) ∧ (y < 0 ∨ (¬ y < 0 ∧ ¬ y ≤ 1)))
def badW (x y : Int32) (h : Hp) : Prop := f_X10_hasSaying 7 x h = some (0, h) ∨ (f_X10_hasSaying 7 x h = some (1, h) ∧ (y < 0 ∨ (¬ y < 0 ∧ ¬ y ≤ 4)))
theorem st_known (x y : Int32) (hI : Inv h) : (∃ v h2, f_X12_known x y h = some (v, h) ∧ f_X13_known x y h = some (v, h2) ∧ h2.1 155 0 = 0 ∧ Inv h2) ∨ (badK x y h ∧ ∃ v h2, f_X13_known x y h = some (v, h2) ∧ h2.1 155 0 = 1 ∧ Inv h2) := by
  obtain ⟨tp, σ, nm, K, fd, fl, tn, hA, hC, hM⟩ := hI
  have hS := hA.2.1
  have H := hS.1
  have e3 := H.1.2.2.2.1
  have e5 := H.1.2.2.2.2.1
  have bad1 : ∀ t, B_X13_known_25 x y 1 h = t → ∃ v h2, t = some (v, h2) ∧ h2.1 155 0 = 1 ∧ Inv h2 := fun t ht => by
    refine ⟨0, sI h 155 0 1, ?_, sI_s, tp, σ, nm, K, fd, fl, tn, hA, hC.lo hA (th_Lo 1), hM.keep (th_Eq 1)⟩
    rw [← ht]
    unfold B_X13_known_25
    rw [th_1, bndS, if_neg (show ¬ (1 : Int32) = 0 by decide)]
  have nb : ∀ z : Int32, (∀ w, w < 2 → z ≠ nI w) → z < 0 ∨ (¬ z < 0 ∧ ¬ z ≤ 1) := fun z hz => by
    by_cases z0 : z < 0
    · exact Or.inl z0
    · refine Or.inr ⟨z0, fun z1 => ?_⟩
      obtain ⟨j, q1, q2, q3⟩ := in_range (x := z) (a := 0) (b := 1) (by decide) (by decide) z0 (fun z' => by
        rw [fa_lt, nI_toInt (by decide)] at z'
        rw [fa_le, show (1 : Int32).toInt = 1 from rfl] at z1
        omega)
      exact hz j (by omega) q3
  unfold f_X13_known
  rcases c_isMeaning (h := h) x with ⟨m, hm, rfl, em⟩ | ⟨em, hx⟩
  · rw [m_isIn_t h (lo := 0) (hi := 7) (a := 0) (b := 7) rfl rfl rfl (Nat.zero_le _) (by omega) (by decide), bndS, if_neg (show ¬ (1 : Int32) = 0 by decide)]
    rcases m_isIn y (lo := 0) (hi := 1) (a := 0) (b := 1) h rfl rfl (by decide) (by decide) with ⟨e, q⟩ | ⟨w, q1, hw, rfl, e⟩
    · rw [e, bndS, if_pos rfl]
      exact Or.inr ⟨Or.inr ⟨em, nb y (fun w hw => q w (Nat.zero_le _) (by omega))⟩, bad1 _ rfl⟩
    · rw [e, bndS, if_neg (show ¬ (1 : Int32) = 0 by decide)]
      refine Or.inl ?_
      have M1 := hM.keep (th_Eq 0)
      have t3 : h.1 9 0 = nI (σ 3) := hC.2.1.1.1.2.2.2.1
      have tc : ∀ b, 1 ≤ b → b ≤ 5 → h.1 10 b = nI (σ (431 + b)) := hC.2.1.1.2.2.1
      have al := kwAl_le H (σ 3) (by omega)
      have ul := kwUp_le (σ := σ) m (σ 3)
      have pm : 2 ^ m < 1000 := by
        have : 2 ^ m ≤ 2 ^ 7 := Nat.pow_le_pow_right (by decide) (by omega)
        omega
      obtain ⟨U, hU⟩ : ∃ U, U = kwUp σ m (σ 3) := ⟨_, rfl⟩
      obtain ⟨A, hAe⟩ : ∃ A, A = kwAl σ (σ 3) := ⟨_, rfl⟩
      -- what both answer
      obtain ⟨v, hv⟩ : ∃ v : Int32, v = if A = 0 then nI w else nI ((if w = 0 then U else A) / Nat.gcd U A) := ⟨_, rfl⟩
      rw [← hU, ← hAe] at ul
      rw [← hAe] at al
      -- the class
      have eC : f_X12_known (nI m) (nI w) h = some (v, h) := by
        unfold f_X12_known
        rw [em, bndS, if_neg (show ¬ nI 1 = 0 by decide), if_neg (show ¬ nI w < 0 from nI_nlt (b := 0) (by omega) (by omega)), if_pos (show nI w ≤ 1 from nI_le (b := 1) (by omega) (by omega))]
        refine sq4 (σ 3) (fun i => nI (kwUp σ m i)) (fun i => nI (kwAl σ i)) (fun i => nI (1 + i)) (fun _ => h) (fun self => ?_) (fun self i hi => ?_) (by omega) rfl rfl rfl rfl
        · unfold F_X12_known_34
          rw [t3, if_pos (nI_lt (by omega) (by omega)), ← hU, ← hAe]
          show (if nI A = 0 then some (nI w, h) else _) = _
          rw [hv]
          by_cases a0 : A = 0
          · rw [if_pos (show nI A = 0 by rw [a0]; rfl), if_pos a0]
          · have g0 : 0 < Nat.gcd U A := Nat.gcd_pos_of_pos_right U (by omega)
            rw [if_neg (show ¬ nI A = 0 from fun z => a0 ((nI_eq (b := 0) (by omega) (by omega)).mp z)), if_neg a0]
            show (if nI w = 0 then B_X12_known_138 (nI U) (nI A) (nI U) h else B_X12_known_138 (nI U) (nI A) (nI A) h) = _
            unfold B_X12_known_138
            rw [c_least (by omega) (by omega) (by omega) (by omega), c_least (by omega) (by omega) (by omega) (by omega), bndS, bndS]
            by_cases w0 : w = 0
            · rw [if_pos (show nI w = 0 by rw [w0]; rfl), if_pos w0]
            · rw [if_neg (show ¬ nI w = 0 from fun z => w0 ((nI_eq (b := 0) (by omega) (by omega)).mp z)), if_neg w0]
        · have ml := mean_lt (σ := σ) (TX σ (1 + i))
          have cm := c_means (b := 1 + i) hA hC (by omega)
          unfold F_X12_known_34
          rw [t3, if_neg (nI_nlt (by omega) (by omega)), if_pos (inb_nI (by omega) (by decide)), clp (by omega), tc (1 + i) (by omega) (by omega), nI_add, lt_s1, cm, bndS, li_1, shl1 (by omega), nI_add, tc (1 + i) (by omega) (by omega), nI_add, lt_s1, if_pos (inb_nI (by omega) (by decide))]
          show _ = self (nI (kwUp σ m i + (if mean σ (TX σ (i + 1)) = 2 ^ m then σ (432 + i) else 0))) (nI (kwAl σ i + σ (432 + i))) (nI (1 + (i + 1))) h
          rw [show 431 + (1 + i) = 432 + i by omega, show 1 + i + 1 = 1 + (i + 1) by omega, show i + 1 = 1 + i by omega]
          by_cases z : mean σ (TX σ (1 + i)) = 2 ^ m
          · rw [if_pos (show nI (mean σ (TX σ (1 + i))) = nI (2 ^ m) by rw [z]), if_pos z]
          · rw [if_neg (show ¬ nI (mean σ (TX σ (1 + i))) = nI (2 ^ m) from fun y => z ((nI_eq (by omega) (by omega)).mp y)), if_neg z, Nat.add_zero]
      -- the reference
      have eM : ∃ h2, B_X13_known_25 (nI m) (nI w) 0 h = some (v, h2) ∧ MR tp σ nm K fd fl tn h2 ∧ Lo h h2 ∧ h2.1 155 0 = 0 := by
        obtain ⟨h2, f1, f2, f3, f4⟩ := kw_loop (w := w) (tp := tp) (K := K) (fd := fd) (fl := fl) (tn := tn) hm hS (fun v16 v17 h15 => if v17 = 0 then some (nI w, h15) else if nI w = 0 then B_X13_known_125 v16 v17 v16 h15 else B_X13_known_125 v16 v17 v17 h15) (σ 3) 0 (sI h 155 0 0) N0 (by omega) (by have := N0_big; omega) M1
        refine ⟨h2, ?_, f2, (th_Lo 0).tr f3, by rw [f4]; exact sI_s⟩
        unfold B_X13_known_25
        rw [th_0, bndS, if_pos (show (0 : Int32) = 0 from rfl)]
        refine f1.trans ?_
        rw [← hU, ← hAe, hv]
        show (if nI A = 0 then some (nI w, h2) else if nI w = 0 then B_X13_known_125 (nI U) (nI A) (nI U) h2 else B_X13_known_125 (nI U) (nI A) (nI A) h2) = _
        by_cases a0 : A = 0
        · rw [if_pos (show nI A = 0 by rw [a0]; rfl), if_pos a0]
        · have g0 : 0 < Nat.gcd U A := Nat.gcd_pos_of_pos_right U (by omega)
          have gl : Nat.gcd U A ≤ A := Nat.le_of_dvd (by omega) (Nat.gcd_dvd_right U A)
          have nzg : nz (nI (Nat.gcd U A)) = true := of_eq_true (nzT g0 (by omega))
          unfold B_X13_known_125
          rw [if_neg (show ¬ nI A = 0 from fun z => a0 ((nI_eq (b := 0) (by omega) (by omega)).mp z)), if_neg a0, m_gcd (by omega) (by omega), bndS, bndS, if_pos nzg, if_pos nzg, divN (by omega) g0 (by omega), divN (by omega) g0 (by omega)]
          by_cases w0 : w = 0
          · rw [if_pos (show nI w = 0 by rw [w0]; rfl), if_pos w0]
          · rw [if_neg (show ¬ nI w = 0 from fun z => w0 ((nI_eq (b := 0) (by omega) (by omega)).mp z)), if_neg w0]
      obtain ⟨h2, f1, f2, f3, f4⟩ := eM
      exact ⟨v, h2, eC, f1, f4, tp, σ, nm, K, fd, fl, tn, hA, hC.lo hA f3, f2⟩
  · rcases m_isIn x (lo := 0) (hi := 7) (a := 0) (b := 7) h rfl rfl (by decide) (by decide) with ⟨e, q⟩ | ⟨w, q1, hw, e0, e⟩
    · rw [e, bndS, if_pos rfl]
      exact Or.inr ⟨Or.inl em, bad1 _ rfl⟩
    · exact absurd e0 (hx w (by omega))
end WKB
