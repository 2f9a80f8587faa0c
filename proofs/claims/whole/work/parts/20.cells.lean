/-! ===== The clean judgement: ints, longs and numbered cells over the machine ===== -/
/-- a value: an int, a long, a cell by its number (0: null) -/
abbrev cv : Type := Int32 ⊕ (Int64 ⊕ Nat)
/-- the cells' ints, longs, changing references: by cell and place -/
abbrev Hp : Type := (Nat → Nat → Int32) × (Nat → Nat → Int64) × (Nat → Nat → Nat)
/-- classes and slots, classes of arrays, addresses -/
abbrev Wd : Type := va_G × (Nat → ClassId) × (Nat → Nat)
def rr (ad : Nat → Nat) (r : Nat) : Option Nat := if r = 0 then none else some (ad r)
def tv (w : Wd) : cv → Value
  | .inl x => .int x
  | .inr (.inl x) => .long x
  | .inr (.inr r) => va_rf (rr w.2.2 r)
def isL : cv → Bool
  | .inr (.inl _) => true
  | _ => false
theorem tv_cat (w : Wd) (v : cv) : ((tv w v).category == 2) = isL v := by
  match v with
  | .inl x => rfl
  | .inr (.inl x) => rfl
  | .inr (.inr r) =>
    show ((va_rf (rr w.2.2 r)).category == 2) = false
    unfold rr
    by_cases h : r = 0
    · rw [if_pos h]; rfl
    · rw [if_neg h]; rfl
theorem tv_cat1 (w : Wd) (v : cv) (h : isL v = false) : (tv w v).category = 1 := by
  match v, h with
  | .inl x, _ => rfl
  | .inr (.inr r), _ =>
    show (va_rf (rr w.2.2 r)).category = 1
    unfold rr
    by_cases h : r = 0
    · rw [if_pos h]; rfl
    · rw [if_neg h]; rfl
def tl (w : Wd) (q : Nat × cv) : Nat × Value := (q.1, tv w q.2)
/-- a store of one word, of two -/
def st1 (L : List (Nat × cv)) (i : Nat) (v : cv) : List (Nat × cv) := (i, v) :: L.filter (fun q => !(q.1 == i) && !(q.1 + 1 == i && isL q.2))
def st2 (L : List (Nat × cv)) (i : Nat) (v : cv) : List (Nat × cv) := (i, v) :: L.filter (fun q => !(q.1 == i) && (!(q.1 == i + 1) && !(q.1 + 1 == i && isL q.2)))
theorem st1_map (w : Wd) (L : List (Nat × cv)) (i : Nat) (v : cv) : (i, tv w v) :: (L.map (tl w)).filter (fun q => !(q.1 == i) && !(q.1 + 1 == i && q.2.category == 2)) = (st1 L i v).map (tl w) := by
  unfold st1
  rw [List.map_cons, List.filter_map]
  congr 2
  congr 1
  funext q
  show (!(q.1 == i) && !(q.1 + 1 == i && (tv w q.2).category == 2)) = _
  rw [tv_cat]
theorem st2_map (w : Wd) (L : List (Nat × cv)) (i : Nat) (v : cv) : (i, tv w v) :: (L.map (tl w)).filter (fun q => !(q.1 == i) && (!(q.1 == i + 1) && !(q.1 + 1 == i && q.2.category == 2))) = (st2 L i v).map (tl w) := by
  unfold st2
  rw [List.map_cons, List.filter_map]
  congr 2
  congr 1
  funext q
  show (!(q.1 == i) && (!(q.1 == i + 1) && !(q.1 + 1 == i && (tv w q.2).category == 2))) = _
  rw [tv_cat]
/-- which cell is what: an object of a class, an array of a kind and its length -/
def layL : List (Option (Nat ⊕ (Nat × Nat))) := [none, some (.inl 10), some (.inl 5), some (.inr (0, 940)), some (.inl 4), some (.inl 7), some (.inl 3), some (.inl 8), some (.inr (0, 16)), some (.inl 0), some (.inr (0, 6)), some (.inr (1, 5)), some (.inr (0, 8)), some (.inr (0, 8)), some (.inr (0, 8)), some (.inr (0, 8)), some (.inr (0, 320)), some (.inr (0, 1280)), some (.inl 5), some (.inr (0, 24)), some (.inr (4, 10)), some (.inl 5), some (.inr (0, 24)), some (.inl 5), some (.inr (0, 24)), some (.inl 5), some (.inr (0, 24)), some (.inl 5), some (.inr (0, 24)), some (.inl 5), some (.inr (0, 24)), some (.inl 5), some (.inr (0, 24)), some (.inl 5), some (.inr (0, 24)), some (.inl 5), some (.inr (0, 24)), some (.inl 5), some (.inr (0, 24)), some (.inl 5), some (.inr (0, 24)), some (.inr (5, 2)), some (.inl 3), some (.inl 8), some (.inr (0, 16)), some (.inl 0), some (.inr (0, 6)), some (.inr (1, 5)), some (.inr (0, 8)), some (.inr (0, 8)), some (.inr (0, 8)), some (.inr (0, 8)), some (.inr (0, 320)), some (.inr (0, 1280)), some (.inl 5), some (.inr (0, 24)), some (.inr (4, 10)), some (.inl 5), some (.inr (0, 24)), some (.inl 5), some (.inr (0, 24)), some (.inl 5), some (.inr (0, 24)), some (.inl 5), some (.inr (0, 24)), some (.inl 5), some (.inr (0, 24)), some (.inl 5), some (.inr (0, 24)), some (.inl 5), some (.inr (0, 24)), some (.inl 5), some (.inr (0, 24)), some (.inl 5), some (.inr (0, 24)), some (.inl 5), some (.inr (0, 24)), some (.inl 3), some (.inl 8), some (.inr (0, 16)), some (.inl 0), some (.inr (0, 6)), some (.inr (1, 5)), some (.inr (0, 8)), some (.inr (0, 8)), some (.inr (0, 8)), some (.inr (0, 8)), some (.inr (0, 320)), some (.inr (0, 1280)), some (.inl 5), some (.inr (0, 24)), some (.inr (4, 10)), some (.inl 5), some (.inr (0, 24)), some (.inl 5), some (.inr (0, 24)), some (.inl 5), some (.inr (0, 24)), some (.inl 5), some (.inr (0, 24)), some (.inl 5), some (.inr (0, 24)), some (.inl 5), some (.inr (0, 24)), some (.inl 5), some (.inr (0, 24)), some (.inl 5), some (.inr (0, 24)), some (.inl 5), some (.inr (0, 24)), some (.inl 5), some (.inr (0, 24)), some (.inr (3, 2)), some (.inl 2), some (.inl 5), some (.inr (0, 24)), some (.inr (1, 6)), some (.inr (1, 6)), some (.inr (0, 24)), some (.inr (0, 24)), some (.inr (0, 144)), some (.inr (1, 145)), some (.inl 1), some (.inl 9), some (.inr (1, 84)), some (.inr (0, 84)), some (.inr (0, 13)), some (.inr (0, 6)), some (.inl 5), some (.inr (0, 13)), some (.inl 0), some (.inl 5), some (.inr (0, 5)), some (.inl 6), some (.inl 5), some (.inr (0, 12)), some (.inr (0, 12)), some (.inr (1, 48)), some (.inr (1, 40)), some (.inr (1, 78)), some (.inl 5), some (.inr (0, 13)), some (.inl 8), some (.inr (0, 16)), some (.inl 0), some (.inr (0, 6)), some (.inr (1, 5)), some (.inr (0, 8)), some (.inr (0, 8)), some (.inr (0, 8)), some (.inr (0, 8)), some (.inr (0, 320)), some (.inr (0, 1280)), some (.inl 5), some (.inr (0, 24)), some (.inl 11), some (.inr (2, 940)), some (.inr (0, 713)), some (.inr (0, 437)), some (.inr (1, 32)), some (.inr (1, 16)), some (.inr (0, 24)), some (.inr (0, 24)), some (.inr (0, 24)), some (.inr (0, 10240)), some (.inr (0, 40)), some (.inr (0, 25)), some (.inr (1, 125)), some (.inr (0, 6)), some (.inr (0, 144)), some (.inr (1, 145)), some (.inr (1, 84)), some (.inr (0, 6)), some (.inr (0, 14)), some (.inr (0, 14)), some (.inr (0, 84)), some (.inr (0, 24)), some (.inr (0, 15)), some (.inr (0, 12)), some (.inr (0, 3)), some (.inr (0, 12)), some (.inr (1, 60)), some (.inr (1, 65)), some (.inr (0, 1426)), some (.inr (1, 32)), some (.inr (3, 2))]
def lay (r : Nat) : Option (Nat ⊕ (Nat × Nat)) := layL.getD r none
def aln (r : Nat) : Nat := match lay r with
  | some (.inr q) => q.2
  | _ => 0
/-- a class's fields: (0, _) an int, (1, _) a long, (2, o) the cell o further on, (3, _) a cell that changes -/
def kn : Nat → List (Nat × Nat)
  | 0 => [(0, 0), (0, 0)]
  | 1 => [(2, 1), (2, 8), (3, 0), (3, 0), (0, 0), (2, 9)]
  | 2 => [(2, 1), (2, 3), (2, 4), (2, 5), (2, 6), (2, 7), (0, 0), (2, 8)]
  | 3 => [(2, 1), (2, 12), (2, 14), (0, 0)]
  | 4 => [(2, 1), (3, 0), (0, 1), (0, 0), (0, 0), (0, 0)]
  | 5 => [(2, 1), (0, 0)]
  | 6 => [(0, 1), (1, 0), (0, 0), (0, 0), (0, 0), (1, 0), (2, 1), (3, 0), (2, 3), (0, 0), (2, 4), (2, 5), (2, 6)]
  | 7 => [(3, 0), (0, 0), (0, 0), (0, 0), (0, 0), (0, 0), (3, 0)]
  | 8 => [(0, 0), (0, 0), (0, 0), (2, 1), (2, 2), (2, 3), (2, 4), (1, 0), (2, 5), (2, 6), (2, 7), (0, 0), (2, 8), (2, 9), (2, 10)]
  | 9 => [(2, 1), (2, 2), (2, 3), (2, 4), (2, 5), (3, 0), (0, 0), (0, 0), (0, 0)]
  | 10 => [(2, 1), (2, 3), (2, 5), (2, 40), (2, 111), (2, 112), (2, 121), (2, 132), (2, 139), (2, 141), (2, 152), (0, 0)]
  | 11 => [(0, 0), (2, 1), (0, 0), (0, 0), (0, 0), (0, 0), (2, 2), (2, 3), (2, 4), (2, 5), (0, 0), (0, 0), (0, 0), (0, 0), (0, 0), (0, 0), (1, 0), (0, 0), (0, 0), (0, 0), (0, 1), (2, 6), (2, 7), (2, 8), (0, 0), (0, 0), (0, 0), (0, 0), (2, 9), (2, 10), (2, 11), (0, 1), (2, 12), (2, 13), (2, 14), (2, 15), (2, 16), (2, 17), (2, 18), (2, 19), (2, 20), (2, 21), (0, 0), (0, 0), (0, 0), (2, 22), (2, 23), (2, 24), (2, 25), (2, 26), (2, 27), (0, 0), (1, 0), (0, 1), (2, 28), (2, 29), (2, 30)]
  | _ => []
theorem lay_in {r : Nat} {L : Nat ⊕ (Nat × Nat)} (h : lay r = some L) : 1 ≤ r ∧ r ≤ 185 := by
  rcases Nat.lt_or_ge r 186 with h1 | h1
  · rcases Nat.eq_zero_or_pos r with h0 | h0
    · subst h0
      cases (show lay 0 = none from rfl).symm.trans h
    · omega
  · exfalso
    unfold lay at h
    rw [List.getD_eq_getElem?_getD, List.getElem?_eq_none (show layL.length ≤ r from h1)] at h
    cases h
theorem ly_5_1 {t : Nat} (h : lay t = some (.inl 5)) : lay (t + 1) = some (.inr (0, aln (t + 1))) := by
  have h1 := (lay_in h).2
  revert h
  have key : ∀ t : Fin 186, lay t.1 = some (.inl 5) → (lay (t.1 + 1) = some (.inr (0, aln (t.1 + 1)))) := by decide +kernel
  exact key ⟨t, by omega⟩
theorem ly_3_1 {t : Nat} (h : lay t = some (.inl 3)) : lay (t + 1) = some (.inl 8) := by
  have h1 := (lay_in h).2
  revert h
  have key : ∀ t : Fin 186, lay t.1 = some (.inl 3) → (lay (t.1 + 1) = some (.inl 8)) := by decide +kernel
  exact key ⟨t, by omega⟩
theorem ly_3_12 {t : Nat} (h : lay t = some (.inl 3)) : lay (t + 12) = some (.inl 5) := by
  have h1 := (lay_in h).2
  revert h
  have key : ∀ t : Fin 186, lay t.1 = some (.inl 3) → (lay (t.1 + 12) = some (.inl 5)) := by decide +kernel
  exact key ⟨t, by omega⟩
theorem ly_3_14 {t : Nat} (h : lay t = some (.inl 3)) : lay (t + 14) = some (.inr (4, 10)) := by
  have h1 := (lay_in h).2
  revert h
  have key : ∀ t : Fin 186, lay t.1 = some (.inl 3) → (lay (t.1 + 14) = some (.inr (4, 10))) := by decide +kernel
  exact key ⟨t, by omega⟩
theorem ly_8_1 {t : Nat} (h : lay t = some (.inl 8)) : lay (t + 1) = some (.inr (0, 16)) := by
  have h1 := (lay_in h).2
  revert h
  have key : ∀ t : Fin 186, lay t.1 = some (.inl 8) → (lay (t.1 + 1) = some (.inr (0, 16))) := by decide +kernel
  exact key ⟨t, by omega⟩
theorem ly_8_2 {t : Nat} (h : lay t = some (.inl 8)) : lay (t + 2) = some (.inl 0) := by
  have h1 := (lay_in h).2
  revert h
  have key : ∀ t : Fin 186, lay t.1 = some (.inl 8) → (lay (t.1 + 2) = some (.inl 0)) := by decide +kernel
  exact key ⟨t, by omega⟩
theorem ly_8_3 {t : Nat} (h : lay t = some (.inl 8)) : lay (t + 3) = some (.inr (0, 6)) := by
  have h1 := (lay_in h).2
  revert h
  have key : ∀ t : Fin 186, lay t.1 = some (.inl 8) → (lay (t.1 + 3) = some (.inr (0, 6))) := by decide +kernel
  exact key ⟨t, by omega⟩
theorem ly_8_4 {t : Nat} (h : lay t = some (.inl 8)) : lay (t + 4) = some (.inr (1, 5)) := by
  have h1 := (lay_in h).2
  revert h
  have key : ∀ t : Fin 186, lay t.1 = some (.inl 8) → (lay (t.1 + 4) = some (.inr (1, 5))) := by decide +kernel
  exact key ⟨t, by omega⟩
theorem ly_8_5 {t : Nat} (h : lay t = some (.inl 8)) : lay (t + 5) = some (.inr (0, 8)) := by
  have h1 := (lay_in h).2
  revert h
  have key : ∀ t : Fin 186, lay t.1 = some (.inl 8) → (lay (t.1 + 5) = some (.inr (0, 8))) := by decide +kernel
  exact key ⟨t, by omega⟩
theorem ly_8_6 {t : Nat} (h : lay t = some (.inl 8)) : lay (t + 6) = some (.inr (0, 8)) := by
  have h1 := (lay_in h).2
  revert h
  have key : ∀ t : Fin 186, lay t.1 = some (.inl 8) → (lay (t.1 + 6) = some (.inr (0, 8))) := by decide +kernel
  exact key ⟨t, by omega⟩
theorem ly_8_7 {t : Nat} (h : lay t = some (.inl 8)) : lay (t + 7) = some (.inr (0, 8)) := by
  have h1 := (lay_in h).2
  revert h
  have key : ∀ t : Fin 186, lay t.1 = some (.inl 8) → (lay (t.1 + 7) = some (.inr (0, 8))) := by decide +kernel
  exact key ⟨t, by omega⟩
theorem ly_8_8 {t : Nat} (h : lay t = some (.inl 8)) : lay (t + 8) = some (.inr (0, 8)) := by
  have h1 := (lay_in h).2
  revert h
  have key : ∀ t : Fin 186, lay t.1 = some (.inl 8) → (lay (t.1 + 8) = some (.inr (0, 8))) := by decide +kernel
  exact key ⟨t, by omega⟩
theorem ly_8_9 {t : Nat} (h : lay t = some (.inl 8)) : lay (t + 9) = some (.inr (0, 320)) := by
  have h1 := (lay_in h).2
  revert h
  have key : ∀ t : Fin 186, lay t.1 = some (.inl 8) → (lay (t.1 + 9) = some (.inr (0, 320))) := by decide +kernel
  exact key ⟨t, by omega⟩
theorem ly_8_10 {t : Nat} (h : lay t = some (.inl 8)) : lay (t + 10) = some (.inr (0, 1280)) := by
  have h1 := (lay_in h).2
  revert h
  have key : ∀ t : Fin 186, lay t.1 = some (.inl 8) → (lay (t.1 + 10) = some (.inr (0, 1280))) := by decide +kernel
  exact key ⟨t, by omega⟩
theorem ly_cl {t : Nat} (h : lay t = some (.inr (4, 10))) (j : Nat) (hj : j < 10) : lay (t + 1 + 2 * j) = some (.inl 5) := by
  have h1 := (lay_in h).2
  revert h
  have key : ∀ t : Fin 186, ∀ j : Fin 10, lay t.1 = some (.inr (4, 10)) → lay (t.1 + 1 + 2 * j.1) = some (.inl 5) := by decide +kernel
  exact key ⟨t, by omega⟩ ⟨j, hj⟩
theorem ly_im {t : Nat} (h : lay t = some (.inr (5, 2))) (j : Nat) (hj : j < 2) : lay (t + 1 + 35 * j) = some (.inl 3) := by
  have h1 := (lay_in h).2
  revert h
  have key : ∀ t : Fin 186, ∀ j : Fin 2, lay t.1 = some (.inr (5, 2)) → lay (t.1 + 1 + 35 * j.1) = some (.inl 3) := by decide +kernel
  exact key ⟨t, by omega⟩ ⟨j, hj⟩
/-! ===== cells, worlds ===== -/
def fdV (w : Wd) (h : Hp) (r : Nat) (k : Nat) (q : Nat × Nat) : Value := match q.1 with
  | 0 => .int (h.1 r k)
  | 1 => .long (h.2.1 r k)
  | 2 => .ref (w.2.2 (r + q.2))
  | _ => va_rf (rr w.2.2 (h.2.2 r k))
def arV (w : Wd) (h : Hp) (r : Nat) (ty n : Nat) : vp_A := (n, match ty with
  | 1 => .inr (.inl (h.2.1 r))
  | 4 => .inr (.inr (.inr (.inr (fun j => some (w.2.2 (r + 1 + 2 * j))))))
  | 5 => .inr (.inr (.inr (.inr (fun j => some (w.2.2 (r + 1 + 35 * j))))))
  | _ => .inl (h.1 r))
def celE (w : Wd) (h : Hp) (r : Nat) : va_E := match lay r with
  | some (.inl ci) => .inr (ci, (kn ci).mapIdx (fdV w h r))
  | some (.inr (ty, n)) => .inl (w.2.1 ty, arV w h r ty n)
  | none => .inr (0, [])
def wd (w : Wd) (h : Hp) : va_W := (List.range 185).map (fun i => (w.2.2 (i + 1), celE w h (i + 1)))
theorem wd_len (w : Wd) (h : Hp) : (wd w h).length = 185 := by simp [wd]
theorem wd_get {w : Wd} {h : Hp} {i : Nat} (hi : i < 185) : (wd w h)[i]? = some (w.2.2 (i + 1), celE w h (i + 1)) := by
  simp [wd, hi]
theorem wd_at {w : Wd} {h : Hp} {r : Nat} {L : Nat ⊕ (Nat × Nat)} (hl : lay r = some L) : (wd w h)[r - 1]? = some (w.2.2 r, celE w h r) := by
  obtain ⟨h1, h2⟩ := lay_in hl
  rw [wd_get (by omega), show r - 1 + 1 = r by omega]
theorem wd_set {w : Wd} {h h' : Hp} {r : Nat} {L : Nat ⊕ (Nat × Nat)} {e : va_E} (hl : lay r = some L) (he : celE w h' r = e) (ho : ∀ q, q ≠ r → celE w h' q = celE w h q) : (wd w h).set (r - 1) (w.2.2 r, e) = wd w h' := by
  obtain ⟨h1, h2⟩ := lay_in hl
  apply List.ext_getElem?
  intro i
  by_cases hi : i < 185
  · by_cases hr : i = r - 1
    · subst hr
      rw [List.getElem?_set_self (by rw [wd_len]; exact hi), wd_get hi, show r - 1 + 1 = r by omega, he]
    · rw [List.getElem?_set_ne (by omega), wd_get hi, wd_get hi, ho (i + 1) (by omega)]
  · rw [List.getElem?_eq_none (by rw [List.length_set, wd_len]; omega), List.getElem?_eq_none (by rw [wd_len]; omega)]
/-! stores -/
def sI (h : Hp) (a k : Nat) (v : Int32) : Hp := (fun b j => if b = a ∧ j = k then v else h.1 b j, h.2.1, h.2.2)
def sL (h : Hp) (a k : Nat) (v : Int64) : Hp := (h.1, fun b j => if b = a ∧ j = k then v else h.2.1 b j, h.2.2)
def sR (h : Hp) (a k : Nat) (v : Nat) : Hp := (h.1, h.2.1, fun b j => if b = a ∧ j = k then v else h.2.2 b j)
/-- n places of array x from i on come into array y from j on -/
def cI (h : Hp) (x i y j n : Nat) : Hp := (fun b k => if b = y then va_cpy (h.1 x) (h.1 y) i j n k else h.1 b k, h.2.1, h.2.2)
def cL (h : Hp) (x i y j n : Nat) : Hp := (h.1, fun b k => if b = y then va_cpy (h.2.1 x) (h.2.1 y) i j n k else h.2.1 b k, h.2.2)
theorem fdV_ne {w : Wd} {h h' : Hp} {r : Nat} (h1 : h'.1 r = h.1 r) (h2 : h'.2.1 r = h.2.1 r) (h3 : h'.2.2 r = h.2.2 r) : celE w h' r = celE w h r := by
  have hf : fdV w h' r = fdV w h r := by
    funext k q
    unfold fdV
    rw [h1, h2, h3]
  have ha : arV w h' r = arV w h r := by
    funext ty n
    unfold arV
    rw [h1, h2]
  unfold celE
  rw [hf, ha]
theorem sI_ne {w : Wd} {h : Hp} {a k : Nat} {v : Int32} (q : Nat) (hq : q ≠ a) : celE w (sI h a k v) q = celE w h q :=
  fdV_ne (by funext j; show (if q = a ∧ j = k then v else h.1 q j) = _; rw [if_neg (fun z => hq z.1)]) rfl rfl
theorem sL_ne {w : Wd} {h : Hp} {a k : Nat} {v : Int64} (q : Nat) (hq : q ≠ a) : celE w (sL h a k v) q = celE w h q :=
  fdV_ne rfl (by funext j; show (if q = a ∧ j = k then v else h.2.1 q j) = _; rw [if_neg (fun z => hq z.1)]) rfl
theorem sR_ne {w : Wd} {h : Hp} {a k : Nat} {v : Nat} (q : Nat) (hq : q ≠ a) : celE w (sR h a k v) q = celE w h q :=
  fdV_ne rfl rfl (by funext j; show (if q = a ∧ j = k then v else h.2.2 q j) = _; rw [if_neg (fun z => hq z.1)])
theorem cI_ne {w : Wd} {h : Hp} {x i y j n : Nat} (q : Nat) (hq : q ≠ y) : celE w (cI h x i y j n) q = celE w h q :=
  fdV_ne (by funext k; show (if q = y then _ else h.1 q k) = _; rw [if_neg hq]) rfl rfl
theorem cL_ne {w : Wd} {h : Hp} {x i y j n : Nat} (q : Nat) (hq : q ≠ y) : celE w (cL h x i y j n) q = celE w h q :=
  fdV_ne rfl (by funext k; show (if q = y then _ else h.2.1 q k) = _; rw [if_neg hq]) rfl
theorem cel_o {w : Wd} {h : Hp} {r ci : Nat} (hl : lay r = some (.inl ci)) : celE w h r = .inr (ci, (kn ci).mapIdx (fdV w h r)) := by
  unfold celE
  rw [hl]
theorem cel_a {w : Wd} {h : Hp} {r ty n : Nat} (hl : lay r = some (.inr (ty, n))) : celE w h r = .inl (w.2.1 ty, arV w h r ty n) := by
  unfold celE
  rw [hl]
theorem fd_at {w : Wd} {h : Hp} {r ci k : Nat} {q : Nat × Nat} (hk : (kn ci)[k]? = some q) : ((kn ci).mapIdx (fdV w h r))[k]? = some (fdV w h r k q) := by
  rw [List.getElem?_mapIdx, hk]
  rfl
/-- one field of an object is another -/
theorem fd_set {w : Wd} {h h' : Hp} {r ci k : Nat} {q : Nat × Nat} {v : Value} (hk : (kn ci)[k]? = some q) (hv : fdV w h' r k q = v) (ho : ∀ j p, j ≠ k → fdV w h' r j p = fdV w h r j p) : ((kn ci).mapIdx (fdV w h r)).set k v = (kn ci).mapIdx (fdV w h' r) := by
  apply List.ext_getElem?
  intro i
  by_cases hi : i = k
  · subst hi
    have hl : i < ((kn ci).mapIdx (fdV w h r)).length := by
      rw [List.length_mapIdx]
      exact (List.getElem?_eq_some_iff.mp hk).1
    rw [List.getElem?_set_self hl, fd_at hk, hv]
  · rw [List.getElem?_set_ne (Ne.symm hi), List.getElem?_mapIdx, List.getElem?_mapIdx]
    cases (kn ci)[i]? with
    | none => rfl
    | some p => exact congrArg some (ho i p hi).symm
