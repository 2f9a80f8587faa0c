/-! ===== the judgement while cells are made: their numbers in the order of making ===== -/
abbrev Ga : Type := Nat × Nat × Nat × Hp
def knA (ci : Nat) : List (Nat × Nat) := (kn ci).map (fun q => if q.1 = 2 then (3, 0) else q)
def arA (w : Wd) (h : Hp) (r : Nat) (ty n : Nat) : vp_A := (n, match ty with
  | 1 => .inr (.inl (h.2.1 r))
  | 4 => .inr (.inr (.inr (.inr (fun j => rr w.2.2 (h.2.2 r j)))))
  | 5 => .inr (.inr (.inr (.inr (fun j => rr w.2.2 (h.2.2 r j)))))
  | _ => .inl (h.1 r))
def celA (w : Wd) (h : Hp) (r : Nat) : va_E := match lay r with
  | some (.inl ci) => .inr (ci, (knA ci).mapIdx (fdV w h r))
  | some (.inr (ty, n)) => .inl (w.2.1 ty, arA w h r ty n)
  | none => .inr (0, [])
def wdA (w : Wd) (n : Nat) (h : Hp) : va_W := (List.range n).map (fun i => (w.2.2 (i + 1), celA w h (i + 1)))
theorem wdA_len (w : Wd) (n : Nat) (h : Hp) : (wdA w n h).length = n := by simp [wdA]
theorem wdA_get {w : Wd} {n : Nat} {h : Hp} {i : Nat} (hi : i < n) : (wdA w n h)[i]? = some (w.2.2 (i + 1), celA w h (i + 1)) := by
  simp [wdA, hi]
/-- a cell that is made -/
def lz (n r : Nat) : Option (Nat ⊕ (Nat × Nat)) := if r ≤ n then lay r else none
theorem lz_s {n r : Nat} {L : Nat ⊕ (Nat × Nat)} (h : lz n r = some L) : lay r = some L ∧ 1 ≤ r ∧ r ≤ n := by
  unfold lz at h
  split at h
  · exact ⟨h, (lay_in h).1, by assumption⟩
  · cases h
theorem wdA_at {w : Wd} {n : Nat} {h : Hp} {r : Nat} {L : Nat ⊕ (Nat × Nat)} (hl : lz n r = some L) : (wdA w n h)[r - 1]? = some (w.2.2 r, celA w h r) := by
  obtain ⟨-, h1, h2⟩ := lz_s hl
  rw [wdA_get (by omega), show r - 1 + 1 = r by omega]
theorem wdA_set {w : Wd} {n : Nat} {h h' : Hp} {r : Nat} {L : Nat ⊕ (Nat × Nat)} {e : va_E} (hl : lz n r = some L) (he : celA w h' r = e) (ho : ∀ q, q ≠ r → celA w h' q = celA w h q) : (wdA w n h).set (r - 1) (w.2.2 r, e) = wdA w n h' := by
  obtain ⟨-, h1, h2⟩ := lz_s hl
  apply List.ext_getElem?
  intro i
  by_cases hi : i < n
  · by_cases hr : i = r - 1
    · subst hr
      rw [List.getElem?_set_self (by rw [wdA_len]; exact hi), wdA_get hi, show r - 1 + 1 = r by omega, he]
    · rw [List.getElem?_set_ne (by omega), wdA_get hi, wdA_get hi, ho (i + 1) (by omega)]
  · rw [List.getElem?_eq_none (by rw [List.length_set, wdA_len]; omega), List.getElem?_eq_none (by rw [wdA_len]; omega)]
theorem wdA_push {w : Wd} {n : Nat} {h h' : Hp} {e : va_E} (he : celA w h' (n + 1) = e) (ho : ∀ q, q ≤ n → celA w h' q = celA w h q) : wdA w n h ++ [(w.2.2 (n + 1), e)] = wdA w (n + 1) h' := by
  unfold wdA
  rw [List.range_succ, List.map_append]
  congr 1
  · apply List.map_congr_left
    intro i hi
    have := List.mem_range.mp hi
    rw [ho (i + 1) (by omega)]
  · show _ = [(w.2.2 (n + 1), celA w h' (n + 1))]
    rw [he]
theorem cA_ne {w : Wd} {h h' : Hp} {r : Nat} (h1 : h'.1 r = h.1 r) (h2 : h'.2.1 r = h.2.1 r) (h3 : h'.2.2 r = h.2.2 r) : celA w h' r = celA w h r := by
  have hf : fdV w h' r = fdV w h r := by
    funext k q
    unfold fdV
    rw [h1, h2, h3]
  have ha : arA w h' r = arA w h r := by
    funext ty n
    unfold arA
    rw [h1, h2, h3]
  unfold celA
  rw [hf, ha]
theorem aI_ne {w : Wd} {h : Hp} {a k : Nat} {v : Int32} (q : Nat) (hq : q ≠ a) : celA w (sI h a k v) q = celA w h q :=
  cA_ne (by funext j; show (if q = a ∧ j = k then v else h.1 q j) = _; rw [if_neg (fun z => hq z.1)]) rfl rfl
theorem aL_ne {w : Wd} {h : Hp} {a k : Nat} {v : Int64} (q : Nat) (hq : q ≠ a) : celA w (sL h a k v) q = celA w h q :=
  cA_ne rfl (by funext j; show (if q = a ∧ j = k then v else h.2.1 q j) = _; rw [if_neg (fun z => hq z.1)]) rfl
theorem aR_ne {w : Wd} {h : Hp} {a k : Nat} {v : Nat} (q : Nat) (hq : q ≠ a) : celA w (sR h a k v) q = celA w h q :=
  cA_ne rfl rfl (by funext j; show (if q = a ∧ j = k then v else h.2.2 q j) = _; rw [if_neg (fun z => hq z.1)])
/-- a new cell: all its places 0 -/
def nw (h : Hp) (a : Nat) : Hp := (fun b j => if b = a then 0 else h.1 b j, fun b j => if b = a then 0 else h.2.1 b j, fun b j => if b = a then 0 else h.2.2 b j)
theorem nw_ne {w : Wd} {h : Hp} {a : Nat} (q : Nat) (hq : q ≠ a) : celA w (nw h a) q = celA w h q :=
  cA_ne (by funext j; exact if_neg hq) (by funext j; exact if_neg hq) (by funext j; exact if_neg hq)
theorem celA_o {w : Wd} {h : Hp} {r ci : Nat} (hl : lay r = some (.inl ci)) : celA w h r = .inr (ci, (knA ci).mapIdx (fdV w h r)) := by
  unfold celA
  rw [hl]
theorem celA_a {w : Wd} {h : Hp} {r ty n : Nat} (hl : lay r = some (.inr (ty, n))) : celA w h r = .inl (w.2.1 ty, arA w h r ty n) := by
  unfold celA
  rw [hl]
theorem fdA_at {w : Wd} {h : Hp} {r ci k : Nat} {q : Nat × Nat} (hk : (knA ci)[k]? = some q) : ((knA ci).mapIdx (fdV w h r))[k]? = some (fdV w h r k q) := by
  rw [List.getElem?_mapIdx, hk]
  rfl
theorem fdA_set {w : Wd} {h h' : Hp} {r ci k : Nat} {q : Nat × Nat} {v : Value} (hk : (knA ci)[k]? = some q) (hv : fdV w h' r k q = v) (ho : ∀ j p, j ≠ k → fdV w h' r j p = fdV w h r j p) : ((knA ci).mapIdx (fdV w h r)).set k v = (knA ci).mapIdx (fdV w h' r) := by
  apply List.ext_getElem?
  intro i
  by_cases hi : i = k
  · subst hi
    have hl : i < ((knA ci).mapIdx (fdV w h r)).length := by
      rw [List.length_mapIdx]
      exact (List.getElem?_eq_some_iff.mp hk).1
    rw [List.getElem?_set_self hl, fdA_at hk, hv]
  · rw [List.getElem?_set_ne (Ne.symm hi), List.getElem?_mapIdx, List.getElem?_mapIdx]
    cases (knA ci)[i]? with
    | none => rfl
    | some p => exact congrArg some (ho i p hi).symm
/-- addresses follow one another -/
def Wad (w : Wd) : Prop := ∀ i : Nat, w.2.2 i = w.2.2 0 + i
def Ab (w : Wd) : Nat → Prop := fun q => w.2.2 1 ≤ q
theorem wdA_D {w : Wd} (hw : Wad w) (n : Nat) (h : Hp) : va_D (Ab w) (wdA w n h) := by
  refine ⟨fun i j p q hi hj hpq => ?_, fun k q hk => ?_⟩
  · have li : i < n := by have := (List.getElem?_eq_some_iff.mp hi).1; rwa [wdA_len] at this
    have lj : j < n := by have := (List.getElem?_eq_some_iff.mp hj).1; rwa [wdA_len] at this
    rw [wdA_get li] at hi
    rw [wdA_get lj] at hj
    cases hi
    cases hj
    have e : w.2.2 (i + 1) = w.2.2 (j + 1) := hpq
    rw [hw (i + 1), hw (j + 1)] at e
    omega
  · have lk : k < n := by have := (List.getElem?_eq_some_iff.mp hk).1; rwa [wdA_len] at this
    rw [wdA_get lk] at hk
    cases hk
    show w.2.2 1 ≤ w.2.2 (k + 1)
    rw [hw 1, hw (k + 1)]
    omega
/-- the calls of nest mates' constructors -/
def nestI : List (String × Nat × String) := [("StruckWords", 20, "StruckWords$Reader"), ("StruckWords$Reader", 11, "StruckWords$Tokens"), ("StruckWords$Tongue", 17, "StruckWords$Edict"), ("StruckWords", 42, "StruckWords$Judge"), ("StruckWords", 49, "StruckWords$Finder"), ("StruckWords$Finder", 11, "StruckWords$Walk"), ("StruckWords$Finder", 20, "StruckWords$Edict"), ("StruckWords", 56, "StruckWords$Tear")]
def NwA (U : State) : Prop := (∀ q ∈ nestI, va_Nw (.methodLinkNest q.1 q.2.1 ⟨q.2.2, "<init>", "()V"⟩ "StruckWords") U) ∧ va_AO "StruckWords$Row" U ∧ va_AO "StruckWords$Matter" U
theorem NwA.warm {s U : State} (hW : s.WarmedH U.vm) (h : NwA s) : NwA U := ⟨fun q hq => (h.1 q hq).warmM hW, h.2.1.moved hW.alike, h.2.2.moved hW.alike⟩
theorem NwA.same {u U : State} (e : u.vm = U.vm) (h : NwA u) : NwA U := ⟨fun q hq => va_Nw.same rfl e (h.1 q hq), h.2.1.moved (by rw [e]; exact Vm.Alike.refl _), h.2.2.moved (by rw [e]; exact Vm.Alike.refl _)⟩
def WSA (w : Wd) (n : Nat) (h : Hp) (U : State) : Prop := va_P w.1 vwCl (wdA w n h) U.heap ∧ U.heap.size = w.2.2 (n + 1) ∧ va_K w.1 vwCl (tys w) U ∧ Wad w ∧ NwA U
def QA (w : Wd) (r : Nat × Hp) : Array Value → State → Outcome → State → Prop := fun _ st oc t => oc = .returned none ∧ WSA w r.1 r.2 t ∧ va_F (Ab w) st t
def rmA (k mc ms : Nat) : Room := { frames := k, cells := mc, slots := ms, locals := 64 * k }
def CTA (l : Launch) (w : Wd) (y : MethodName) (cc : ByteArray) (nL : Nat) (k mc ms : Nat) (as : List cv) (n : Nat) (h : Hp) (r : Nat × Hp) : Prop :=
  Met l y (wsA y cc nL none) (rmA k mc ms) (va_Pc (as.map (tv w)) (fun U => WSA w n h U)) (QA w r) mc ms (Ab w)
def OKA (κ : Kx) (cc : ByteArray) (nL : Nat) (own nm : String) (k mc ms : Nat) : Prop := match κ with
  | (p, l, e, R, s, m, args, below, meth, c, w) => p.tables.exec = Jvm.exec ∧ c.code = cc ∧ c.maxLocals = nL ∧ meth.sig.returnType = none ∧ s.vm.findClass own = some m.cls ∧ (∀ q ∈ tbl, q.before args s = true) ∧ meth.locks = false ∧ k ≤ R.frames ∧ 64 * k ≤ R.locals ∧ mc = R.cells ∧ ms = R.slots ∧ meth.name = nm ∧ w.2.2 1 ≤ s.heap.size ∧ Wad w ∧ va_K w.1 vwCl (tys w) s ∧ NwA s
def JA (κ : Kx) (pc : Nat) (L : List (Nat × cv)) (st : List cv) (g : Ga) (r : Nat × Hp) : Prop := match κ with
  | (p, l, e, R, s, m, args, below, meth, c, w) => ∀ (H : Heap) (locs : List Loc) (ls : Array Slot), (va_P w.1 vwCl (wdA w g.1 g.2.2.2) H ∧ s.heap.size = w.2.2 (g.2.1 + 1)) → va_S (Ab w) s.heap H locs → lv_has ls c.maxLocals (L.map (tl w)) → W p l e R s m args below meth c H locs (g.1 - g.2.1) g.2.2.1 (MQ below (QA w r) args s R.cells R.slots (Ab w)) (F0 m pc ls (st.map (tv w)))
section AA
variable {κ : Kx} {cc : ByteArray} {nL : Nat} {own nm : String} {lv mc ms pc : Nat} {L L' : List (Nat × cv)} {st : List cv} {h : Ga} {r : Nat × Hp}
theorem A_sub (ks : List Nat) (hL : ks.filterMap (fun k => L[k]?) = L') (K : JA κ pc L' st h r) : JA κ pc L st h r := by
  obtain ⟨p, l, e, R, s, m, args, below, meth, c, w⟩ := κ
  intro H locs ls hP hS hl
  refine K H locs ls hP hS ⟨hl.1, hl.2.1, fun q hq => ?_⟩
  obtain ⟨q0, h0, rfl⟩ := List.mem_map.mp hq
  rw [← hL] at h0
  obtain ⟨k, -, hk⟩ := List.mem_filterMap.mp h0
  exact hl.2.2 _ (List.mem_map.mpr ⟨q0, List.mem_of_getElem? hk, rfl⟩)
theorem A_iconst (X : OKA κ cc nL own nm lv mc ms) {n : Int} {v : Int32} (hv : Int32.ofInt n = v) (hd : decode cc pc = .ok (.iconst n, 1)) (K : JA κ (pc + 1) L (.inl v :: st) h r) : JA κ pc L st h r := by
  obtain ⟨p, l, e, R, s, m, args, below, meth, c, w⟩ := κ
  obtain ⟨hx, hb, hml, hr, hown, hts, hlk, hfr, hlo, hmc, hms, hnm, hba, hw, hK, hN⟩ := X
  intro H locs ls hP hS hl
  exact lv_iconst hx hb hd hv (K H locs ls hP hS hl)
theorem A_bipush (X : OKA κ cc nL own nm lv mc ms) {n : Int} {v : Int32} (hv : (Int8.ofInt n).toInt32 = v) (hd : decode cc pc = .ok (.bipush n, 2)) (K : JA κ (pc + 2) L (.inl v :: st) h r) : JA κ pc L st h r := by
  obtain ⟨p, l, e, R, s, m, args, below, meth, c, w⟩ := κ
  obtain ⟨hx, hb, hml, hr, hown, hts, hlk, hfr, hlo, hmc, hms, hnm, hba, hw, hK, hN⟩ := X
  intro H locs ls hP hS hl
  exact lv_bipush hx hb hd hv (K H locs ls hP hS hl)
theorem A_sipush (X : OKA κ cc nL own nm lv mc ms) {n : Int} {v : Int32} (hv : (Int16.ofInt n).toInt32 = v) (hd : decode cc pc = .ok (.sipush n, 3)) (K : JA κ (pc + 3) L (.inl v :: st) h r) : JA κ pc L st h r := by
  obtain ⟨p, l, e, R, s, m, args, below, meth, c, w⟩ := κ
  obtain ⟨hx, hb, hml, hr, hown, hts, hlk, hfr, hlo, hmc, hms, hnm, hba, hw, hK, hN⟩ := X
  intro H locs ls hP hS hl
  exact lv_sipush hx hb hd hv (K H locs ls hP hS hl)
theorem A_lconst (X : OKA κ cc nL own nm lv mc ms) {n : Fin 2} {v : Int64} (hv : Int64.ofNat (n : Nat) = v) (hd : decode cc pc = .ok (.lconst n, 1)) (K : JA κ (pc + 1) L (.inr (.inl v) :: st) h r) : JA κ pc L st h r := by
  obtain ⟨p, l, e, R, s, m, args, below, meth, c, w⟩ := κ
  obtain ⟨hx, hb, hml, hr, hown, hts, hlk, hfr, hlo, hmc, hms, hnm, hba, hw, hK, hN⟩ := X
  intro H locs ls hP hS hl
  exact lv_lconst hx hb hd hv (K H locs ls hP hS hl)
theorem A_ldc2 (X : OKA κ cc nL own nm lv mc ms) {idx : Nat} {v : Int64} (hv : Cond.constantLong own idx v ∈ tbl) (hd : decode cc pc = .ok (.ldc2_w idx, 3)) (K : JA κ (pc + 3) L (.inr (.inl v) :: st) h r) : JA κ pc L st h r := by
  obtain ⟨p, l, e, R, s, m, args, below, meth, c, w⟩ := κ
  obtain ⟨hx, hb, hml, hr, hown, hts, hlk, hfr, hlo, hmc, hms, hnm, hba, hw, hK, hN⟩ := X
  intro H locs ls hP hS hl
  exact lv_ldc2 hx hb hown (hts _ hv) hd (K H locs ls hP hS hl)
theorem A_iload_n (X : OKA κ cc nL own nm lv mc ms) {k : Fin 4} {j i : Nat} {x : Int32} (hi : (k : Nat) = i) (hk : L[j]? = some (i, .inl x)) (hd : decode cc pc = .ok (.iload_n k, 1)) (K : JA κ (pc + 1) L (.inl x :: st) h r) : JA κ pc L st h r := by
  obtain ⟨p, l, e, R, s, m, args, below, meth, c, w⟩ := κ
  obtain ⟨hx, hb, hml, hr, hown, hts, hlk, hfr, hlo, hmc, hms, hnm, hba, hw, hK, hN⟩ := X
  intro H locs ls hP hS hl
  exact lv_iload_n hx hb hd hi (has_at hl hk) (K H locs ls hP hS hl)
theorem A_iload (X : OKA κ cc nL own nm lv mc ms) {j i : Nat} {x : Int32} (hk : L[j]? = some (i, .inl x)) (hd : decode cc pc = .ok (.iload i, 2)) (K : JA κ (pc + 2) L (.inl x :: st) h r) : JA κ pc L st h r := by
  obtain ⟨p, l, e, R, s, m, args, below, meth, c, w⟩ := κ
  obtain ⟨hx, hb, hml, hr, hown, hts, hlk, hfr, hlo, hmc, hms, hnm, hba, hw, hK, hN⟩ := X
  intro H locs ls hP hS hl
  exact lv_iload hx hb hd (has_at hl hk) (K H locs ls hP hS hl)
theorem A_lload_n (X : OKA κ cc nL own nm lv mc ms) {k : Fin 4} {j i : Nat} {x : Int64} (hi : (k : Nat) = i) (hk : L[j]? = some (i, .inr (.inl x))) (hd : decode cc pc = .ok (.lload_n k, 1)) (K : JA κ (pc + 1) L (.inr (.inl x) :: st) h r) : JA κ pc L st h r := by
  obtain ⟨p, l, e, R, s, m, args, below, meth, c, w⟩ := κ
  obtain ⟨hx, hb, hml, hr, hown, hts, hlk, hfr, hlo, hmc, hms, hnm, hba, hw, hK, hN⟩ := X
  intro H locs ls hP hS hl
  exact lv_lload_n hx hb hd hi (has_at hl hk) (K H locs ls hP hS hl)
theorem A_aload_n (X : OKA κ cc nL own nm lv mc ms) {k : Fin 4} {j i x : Nat} (hi : (k : Nat) = i) (hk : L[j]? = some (i, .inr (.inr x))) (hd : decode cc pc = .ok (.aload_n k, 1)) (K : JA κ (pc + 1) L (.inr (.inr x) :: st) h r) : JA κ pc L st h r := by
  obtain ⟨p, l, e, R, s, m, args, below, meth, c, w⟩ := κ
  obtain ⟨hx, hb, hml, hr, hown, hts, hlk, hfr, hlo, hmc, hms, hnm, hba, hw, hK, hN⟩ := X
  intro H locs ls hP hS hl
  have hv := has_at hl hk
  have K := K H locs ls hP hS hl
  rw [List.map_cons] at K
  by_cases h0 : x = 0
  · subst h0
    exact lv_aload_nN hx hb hd hi hv K
  · have e : tv w (.inr (.inr x)) = .ref (w.2.2 x) := by show va_rf (rr w.2.2 x) = _; unfold rr; rw [if_neg h0]; rfl
    rw [e] at hv K
    exact lv_aload_n hx hb hd hi hv K
theorem A_istore_n (X : OKA κ cc nL own nm lv mc ms) {k : Fin 4} {i : Nat} {x : Int32} (hi : (k : Nat) = i) (hn : i < nL) (hL : st1 L i (.inl x) = L') (hd : decode cc pc = .ok (.istore_n k, 1)) (K : JA κ (pc + 1) L' st h r) : JA κ pc L (.inl x :: st) h r := by
  obtain ⟨p, l, e, R, s, m, args, below, meth, c, w⟩ := κ
  obtain ⟨hx, hb, hml, hr, hown, hts, hlk, hfr, hlo, hmc, hms, hnm, hba, hw, hK, hN⟩ := X
  intro H locs ls hP hS hl
  exact lv_istore_n hx hb hd hi hl (by omega) ((st1_map w L i (.inl x)).trans (by rw [hL])) (fun ls' hl' => K H locs ls' hP hS hl')
theorem A_istore (X : OKA κ cc nL own nm lv mc ms) {i : Nat} {x : Int32} (hn : i < nL) (hL : st1 L i (.inl x) = L') (hd : decode cc pc = .ok (.istore i, 2)) (K : JA κ (pc + 2) L' st h r) : JA κ pc L (.inl x :: st) h r := by
  obtain ⟨p, l, e, R, s, m, args, below, meth, c, w⟩ := κ
  obtain ⟨hx, hb, hml, hr, hown, hts, hlk, hfr, hlo, hmc, hms, hnm, hba, hw, hK, hN⟩ := X
  intro H locs ls hP hS hl
  exact lv_istore hx hb hd hl (by omega) ((st1_map w L i (.inl x)).trans (by rw [hL])) (fun ls' hl' => K H locs ls' hP hS hl')
theorem A_iinc (X : OKA κ cc nL own nm lv mc ms) {i j : Nat} {n : Int} {x v : Int32} (hk : L[j]? = some (i, .inl x)) (hv : Int32.ofInt n = v) (hn : i < nL) (hL : st1 L i (.inl (x + v)) = L') (hd : decode cc pc = .ok (.iinc i n, 3)) (K : JA κ (pc + 3) L' st h r) : JA κ pc L st h r := by
  obtain ⟨p, l, e, R, s, m, args, below, meth, c, w⟩ := κ
  obtain ⟨hx, hb, hml, hr, hown, hts, hlk, hfr, hlo, hmc, hms, hnm, hba, hw, hK, hN⟩ := X
  intro H locs ls hP hS hl
  exact lv_iinc (k := j) hx hb hd hl (by rw [List.getElem?_map, hk]; rfl) (by rw [hv]) (by omega) ((st1_map w L i (.inl (x + v))).trans (by rw [hL])) (fun ls' hl' => K H locs ls' hP hS hl')
theorem A_iadd (X : OKA κ cc nL own nm lv mc ms) {x y : Int32} (hd : decode cc pc = .ok (.iadd, 1)) (K : JA κ (pc + 1) L (.inl (x + y) :: st) h r) : JA κ pc L (.inl y :: .inl x :: st) h r := by
  obtain ⟨p, l, e, R, s, m, args, below, meth, c, w⟩ := κ
  obtain ⟨hx, hb, hml, hr, hown, hts, hlk, hfr, hlo, hmc, hms, hnm, hba, hw, hK, hN⟩ := X
  intro H locs ls hP hS hl
  exact lv_iadd hx hb hd (K H locs ls hP hS hl)
theorem A_irem (X : OKA κ cc nL own nm lv mc ms) {x y : Int32} (hne : ¬ y = 0) (hd : decode cc pc = .ok (.irem, 1)) (K : JA κ (pc + 1) L (.inl (x - x / y * y) :: st) h r) : JA κ pc L (.inl y :: .inl x :: st) h r := by
  obtain ⟨p, l, e, R, s, m, args, below, meth, c, w⟩ := κ
  obtain ⟨hx, hb, hml, hr, hown, hts, hlk, hfr, hlo, hmc, hms, hnm, hba, hw, hK, hN⟩ := X
  intro H locs ls hP hS hl
  exact lv_irem hx hb hd hne (K H locs ls hP hS hl)
theorem A_dup (X : OKA κ cc nL own nm lv mc ms) {a : cv} (ha : isL a = false) (hd : decode cc pc = .ok (.dup, 1)) (K : JA κ (pc + 1) L (a :: a :: st) h r) : JA κ pc L (a :: st) h r := by
  obtain ⟨p, l, e, R, s, m, args, below, meth, c, w⟩ := κ
  obtain ⟨hx, hb, hml, hr, hown, hts, hlk, hfr, hlo, hmc, hms, hnm, hba, hw, hK, hN⟩ := X
  intro H locs ls hP hS hl
  exact lv_dup hx hb hd (tv_cat1 w a ha) (K H locs ls hP hS hl)
theorem A_icmp_lt (X : OKA κ cc nL own nm lv mc ms) {x y : Int32} {off : Int} {tgt : Nat} (hd : decode cc pc = .ok (.if_icmp .lt off, 3)) (ht : (pc : Int) + off = (tgt : Int)) (kt : x < y → JA κ tgt L st h r) (kf : ¬ x < y → JA κ (pc + 3) L st h r) : JA κ pc L (.inl y :: .inl x :: st) h r := by
  obtain ⟨p, l, e, R, s, m, args, below, meth, c, w⟩ := κ
  obtain ⟨hx, hb, hml, hr, hown, hts, hlk, hfr, hlo, hmc, hms, hnm, hba, hw, hK, hN⟩ := X
  intro H locs ls hP hS hl
  exact lv_icmp_lt hx hb hd ht (fun q => kt q H locs ls hP hS hl) (fun q => kf q H locs ls hP hS hl)
theorem A_icmp_ge (X : OKA κ cc nL own nm lv mc ms) {x y : Int32} {off : Int} {tgt : Nat} (hd : decode cc pc = .ok (.if_icmp .ge off, 3)) (ht : (pc : Int) + off = (tgt : Int)) (kt : y ≤ x → JA κ tgt L st h r) (kf : ¬ y ≤ x → JA κ (pc + 3) L st h r) : JA κ pc L (.inl y :: .inl x :: st) h r := by
  obtain ⟨p, l, e, R, s, m, args, below, meth, c, w⟩ := κ
  obtain ⟨hx, hb, hml, hr, hown, hts, hlk, hfr, hlo, hmc, hms, hnm, hba, hw, hK, hN⟩ := X
  intro H locs ls hP hS hl
  exact lv_icmp_ge hx hb hd ht (fun q => kt q H locs ls hP hS hl) (fun q => kf q H locs ls hP hS hl)
theorem A_icmp_gt (X : OKA κ cc nL own nm lv mc ms) {x y : Int32} {off : Int} {tgt : Nat} (hd : decode cc pc = .ok (.if_icmp .gt off, 3)) (ht : (pc : Int) + off = (tgt : Int)) (kt : y < x → JA κ tgt L st h r) (kf : ¬ y < x → JA κ (pc + 3) L st h r) : JA κ pc L (.inl y :: .inl x :: st) h r := by
  obtain ⟨p, l, e, R, s, m, args, below, meth, c, w⟩ := κ
  obtain ⟨hx, hb, hml, hr, hown, hts, hlk, hfr, hlo, hmc, hms, hnm, hba, hw, hK, hN⟩ := X
  intro H locs ls hP hS hl
  exact lv_icmp_gt hx hb hd ht (fun q => kt q H locs ls hP hS hl) (fun q => kf q H locs ls hP hS hl)
theorem A_icmp_le (X : OKA κ cc nL own nm lv mc ms) {x y : Int32} {off : Int} {tgt : Nat} (hd : decode cc pc = .ok (.if_icmp .le off, 3)) (ht : (pc : Int) + off = (tgt : Int)) (kt : x ≤ y → JA κ tgt L st h r) (kf : ¬ x ≤ y → JA κ (pc + 3) L st h r) : JA κ pc L (.inl y :: .inl x :: st) h r := by
  obtain ⟨p, l, e, R, s, m, args, below, meth, c, w⟩ := κ
  obtain ⟨hx, hb, hml, hr, hown, hts, hlk, hfr, hlo, hmc, hms, hnm, hba, hw, hK, hN⟩ := X
  intro H locs ls hP hS hl
  exact lv_icmp_le hx hb hd ht (fun q => kt q H locs ls hP hS hl) (fun q => kf q H locs ls hP hS hl)
theorem A_goto (X : OKA κ cc nL own nm lv mc ms) {off : Int} {tgt : Nat} (hd : decode cc pc = .ok (.goto off, 3)) (ht : (pc : Int) + off = (tgt : Int)) (K : JA κ tgt L st h r) : JA κ pc L st h r := by
  obtain ⟨p, l, e, R, s, m, args, below, meth, c, w⟩ := κ
  obtain ⟨hx, hb, hml, hr, hown, hts, hlk, hfr, hlo, hmc, hms, hnm, hba, hw, hK, hN⟩ := X
  intro H locs ls hP hS hl
  exact lv_goto hx hb hd ht (K H locs ls hP hS hl)
def lA (g : Ga) (ty r : Nat) : Bool := match lz g.1 r with
  | some (.inr (t, _)) => t == ty
  | _ => false
theorem lA_s {g : Ga} {ty r : Nat} (h : lA g ty r = true) : ∃ n, lz g.1 r = some (.inr (ty, n)) := by
  unfold lA at h
  split at h
  · rename_i t n e
    exact ⟨n, by rw [e, eq_of_beq h]⟩
  · cases h
/-- how large the heap is: the cells that are made, and no more -/
theorem W_sz {p : Program} {l : Launch} {e : Env} {R : Room} {s : State} {m : MethodId} {args : Array Value} {below : List Frame} {meth : Method} {c : Code} {H : Heap} {locs : List Loc} {cells slots : Nat} {Q : State → Prop} {g : JFrame} (k : H.size ≤ s.heap.size + cells → W p l e R s m args below meth c H locs cells slots Q g) : W p l e R s m args below meth c H locs cells slots Q g := fun T hT X => k (by have := X.heapSize; rw [hT] at this; exact this) T hT X
theorem sz_of {w : Wd} {D : va_G} {cl : List vw_C} {n n0 : Nat} {h : Hp} {H : Heap} {S : Nat} (hw : Wad w) (hP : va_P D cl (wdA w n h) H) (hn : 1 ≤ n) (h0 : n0 ≤ n) (hs : S = w.2.2 (n0 + 1)) (hu : H.size ≤ S + (n - n0)) : H.size = w.2.2 (n + 1) := by
  have h1 := (hP (n - 1) _ (wdA_get (by omega))).lt
  have h2 : w.2.2 (n - 1 + 1) < H.size := h1
  rw [hw (n - 1 + 1)] at h2
  rw [hs, hw (n0 + 1)] at hu
  rw [hw (n + 1)]
  omega
def refTy : FieldType → Bool
  | .object _ => true
  | .array _ => true
  | _ => false
theorem tyR2 {ty : FieldType} {v : Option Nat} (h : refTy ty = true) : narrow ty (va_rf v) = va_rf v ∧ fits ty (va_rf v) = true := by
  cases ty <;> first | (cases v <;> exact ⟨rfl, rfl⟩) | exact absurd h (by simp [refTy])
def FQ (own : String) (idx ci k : Nat) : Prop := ∃ (C : String) (T : u_T) (N : Nat) (ty : Nat → FieldType), vwCl[ci]? = some (C, T, N) ∧ (∀ w ∈ u_ws C T N, w ∈ tbl) ∧ k < N ∧ Cond.fieldLink own idx (T k).1 (T k).2.1 (T k).2.2.1 ∈ tbl ∧ (∀ k, k < N → parseFieldDescriptor (T k).2.2.1 = some (ty k)) ∧ (∀ a, a < N → ∀ b, b < N → a ≠ b → (T a).2.1 ≠ (T b).2.1) ∧ (T k).2.2.2 = true ∧ refTy (ty k) = true ∧ (T k).1 = own
def dfv (q : Nat × Nat) : Value := match q.1 with
  | 0 => .int 0
  | 1 => .long 0
  | _ => .null
theorem dfv_s {w : Wd} {h : Hp} {r k : Nat} {q : Nat × Nat} (hq : q.1 ≠ 2) : fdV w (nw h r) r k q = dfv q := by
  obtain ⟨t, z⟩ := q
  have e1 : (nw h r).1 r k = 0 := if_pos rfl
  have e2 : (nw h r).2.1 r k = 0 := if_pos rfl
  have e3 : (nw h r).2.2 r k = 0 := if_pos rfl
  unfold fdV
  rw [e1, e2, e3]
  match t, hq with
  | 0, _ => rfl
  | 1, _ => rfl
  | 2, hq => exact absurd rfl hq
  | t + 3, _ => rfl
theorem map_dfv {w : Wd} {h : Hp} {r : Nat} {l : List (Nat × Nat)} (hl : l.all (fun q => decide (q.1 ≠ 2)) = true) : l.mapIdx (fdV w (nw h r) r) = l.map dfv := by
  apply List.ext_getElem?
  intro i
  rw [List.getElem?_mapIdx, List.getElem?_map]
  cases hi : l[i]? with
  | none => rfl
  | some q =>
    have := List.all_eq_true.mp hl q (List.mem_of_getElem? hi)
    exact congrArg some (dfv_s (of_decide_eq_true this))
def nwOk (g : Ga) (ci N mc ms : Nat) : Bool := decide (lay (g.1 + 1) = some (.inl ci)) && decide (1 ≤ g.1) && decide (g.2.1 ≤ g.1) && decide (g.1 + 1 - g.2.1 ≤ mc) && decide (g.2.2.1 + N ≤ ms)
theorem nwOk_s {g : Ga} {ci N mc ms : Nat} (h : nwOk g ci N mc ms = true) : lay (g.1 + 1) = some (.inl ci) ∧ 1 ≤ g.1 ∧ g.2.1 ≤ g.1 ∧ g.1 + 1 - g.2.1 ≤ mc ∧ g.2.2.1 + N ≤ ms := by
  simp only [nwOk, Bool.and_eq_true, decide_eq_true_eq] at h
  exact ⟨h.1.1.1.1, h.1.1.1.2, h.1.1.2, h.1.2, h.2⟩
def naOk (g : Ga) (ty : Nat) (x : Int32) (mc ms : Nat) : Bool := decide (0 ≤ x) && decide (lay (g.1 + 1) = some (.inr (ty, x.toNatClampNeg))) && decide (1 ≤ g.1) && decide (g.2.1 ≤ g.1) && decide (g.1 + 1 - g.2.1 ≤ mc) && decide (g.2.2.1 + x.toNatClampNeg ≤ ms)
theorem naOk_s {g : Ga} {ty : Nat} {x : Int32} {mc ms : Nat} (h : naOk g ty x mc ms = true) : ¬ x < 0 ∧ lay (g.1 + 1) = some (.inr (ty, x.toNatClampNeg)) ∧ 1 ≤ g.1 ∧ g.2.1 ≤ g.1 ∧ g.1 + 1 - g.2.1 ≤ mc ∧ g.2.2.1 + x.toNatClampNeg ≤ ms := by
  simp only [naOk, Bool.and_eq_true, decide_eq_true_eq] at h
  exact ⟨Int32.not_lt.mpr h.1.1.1.1.1, h.1.1.1.1.2, h.1.1.1.2, h.1.1.2, h.1.2, h.2⟩
theorem na_small {r ty n : Nat} (h : lay r = some (.inr (ty, n))) : n ≤ 10240 := by
  have h1 := (lay_in h).2
  have key : ∀ t : Fin 186, (match lay t.1 with | some (.inr q) => q.2 | _ => 0) ≤ 10240 := by decide +kernel
  have h2 := key ⟨r, by omega⟩
  simp only [h] at h2
  exact h2
theorem w_obj : Cond.instanceMethod Lib.objectInit ∈ tbl ∧ Cond.code Lib.objectInit ⟨#[0xb1]⟩ 1 none ∈ tbl := by decide +kernel
def vrOk (g : Ga) (mc ms : Nat) : Bool := (decide (g.1 - g.2.1 ≤ mc) && decide (g.2.2.1 ≤ ms)) && (decide (1 ≤ g.1) && decide (g.2.1 ≤ g.1))
def put4 (g : Ga) (h : Hp) : Ga := (g.1, g.2.1, g.2.2.1, h)
def oA (g : Ga) (ci r : Nat) : Bool := match lz g.1 r with
  | some (.inl c) => c == ci
  | _ => false
theorem oA_s {g : Ga} {ci r : Nat} (h : oA g ci r = true) : lz g.1 r = some (.inl ci) := by
  unfold oA at h
  split at h
  · rename_i c e
    rw [e, eq_of_beq h]
  · cases h
def aA (g : Ga) (ty : Nat) (i : Int32) (r : Nat) : Bool := match lz g.1 r with
  | some (.inr (t, n)) => t == ty && inb i n
  | _ => false
theorem aA_s {g : Ga} {ty : Nat} {i : Int32} {r : Nat} (h : aA g ty i r = true) : ∃ n, lz g.1 r = some (.inr (ty, n)) ∧ inb i n = true := by
  unfold aA at h
  split at h
  · rename_i t n e
    simp only [Bool.and_eq_true, beq_iff_eq] at h
    exact ⟨n, by rw [e, h.1], h.2⟩
  · cases h
theorem A_getI (X : OKA κ cc nL own nm lv mc ms) {a ci k idx z : Nat} {q : Nat × Nat} (ha : oA h ci a = true) (hf : FL own idx ci k q) (hk : (knA ci)[k]? = some (0, z)) (hd : decode cc pc = .ok (.getfield idx, 3)) (K : JA κ (pc + 3) L (.inl (h.2.2.2.1 a k) :: st) h r) : JA κ pc L (.inr (.inr a) :: st) h r := by
  obtain ⟨p, l, e, R, s, m, args, below, meth, c, w⟩ := κ
  obtain ⟨hx, hb, hml, hr, hown, hts, hlk, hfr, hlo, hmc, hms, hnm, hba, hw, hK, hN⟩ := X
  intro H locs ls ⟨hP, hz⟩ hS hl
  have e0 : tv w (.inr (.inr a)) = .ref (w.2.2 a) := tv_ref (by have := (lz_s (oA_s ha)).2.1; omega)
  obtain ⟨C, T, N, h1, h2, h3, h4, h5⟩ := hf
  rw [List.map_cons, e0]
  exact va_get hx hb hts h2 hown hK hP (a - 1) ((wdA_at (oA_s ha)).trans (by rw [celA_o (lz_s (oA_s ha)).1])) h1 k h3 (hts _ h4) (fun _ q => q) (fdA_at hk) hd (K H locs ls ⟨hP, hz⟩ hS hl)
theorem A_getR (X : OKA κ cc nL own nm lv mc ms) {a ci k idx z : Nat} {q : Nat × Nat} (ha : oA h ci a = true) (hf : FL own idx ci k q) (hk : (knA ci)[k]? = some (3, z)) (hd : decode cc pc = .ok (.getfield idx, 3)) (K : JA κ (pc + 3) L (.inr (.inr (h.2.2.2.2.2 a k)) :: st) h r) : JA κ pc L (.inr (.inr a) :: st) h r := by
  obtain ⟨p, l, e, R, s, m, args, below, meth, c, w⟩ := κ
  obtain ⟨hx, hb, hml, hr, hown, hts, hlk, hfr, hlo, hmc, hms, hnm, hba, hw, hK, hN⟩ := X
  intro H locs ls ⟨hP, hz⟩ hS hl
  have e0 : tv w (.inr (.inr a)) = .ref (w.2.2 a) := tv_ref (by have := (lz_s (oA_s ha)).2.1; omega)
  obtain ⟨C, T, N, h1, h2, h3, h4, h5⟩ := hf
  rw [List.map_cons, e0]
  exact va_get hx hb hts h2 hown hK hP (a - 1) ((wdA_at (oA_s ha)).trans (by rw [celA_o (lz_s (oA_s ha)).1])) h1 k h3 (hts _ h4) (fun _ q => q) (fdA_at hk) hd (K H locs ls ⟨hP, hz⟩ hS hl)
theorem A_putI (X : OKA κ cc nL own nm lv mc ms) {a ci k idx : Nat} {v : Int32} (ha : oA h ci a = true) (hf : FP own idx ci k (0, 0)) (hk : (knA ci)[k]? = some (0, 0)) (hd : decode cc pc = .ok (.putfield idx, 3)) (K : JA κ (pc + 3) L st (put4 h (sI h.2.2.2 a k v)) r) : JA κ pc L (.inl v :: .inr (.inr a) :: st) h r := by
  obtain ⟨p, l, e, R, s, m, args, below, meth, c, w⟩ := κ
  obtain ⟨hx, hb, hml, hr, hown, hts, hlk, hfr, hlo, hmc, hms, hnm, hba, hw, hK, hN⟩ := X
  intro H locs ls ⟨hP, hz⟩ hS hl
  have e0 : tv w (.inr (.inr a)) = .ref (w.2.2 a) := tv_ref (by have := (lz_s (oA_s ha)).2.1; omega)
  obtain ⟨C, T, N, ty, h1, h2, h3, h4, h5, h6, h7, h8, h9⟩ := hf
  rw [List.map_cons, List.map_cons, e0]
  obtain ⟨n1, n2⟩ := tyI h9
  have la := (lz_s (oA_s ha)).1
  refine va_put (v := tv w (.inl v)) hx hb hts h2 ty h6 h7 hown hK hP (wdA_D hw _ _) hS (a - 1) ((wdA_at (oA_s ha)).trans (by rw [celA_o la])) h1 k h3 (hts _ h4) (fun _ q => q) h8 (h6 k h3) n1 n2 ?_ hd (fun H1 locs1 hP1 hD1 hS1 => ?_)
  · rw [List.length_mapIdx]
    exact (List.getElem?_eq_some_iff.mp hk).1
  · have e1 := wdA_set (n := h.1) (h := h.2.2.2) (h' := sI h.2.2.2 a k v) (w := w) (e := .inr (ci, ((knA ci).mapIdx (fdV w h.2.2.2 a)).set k (tv w (.inl v)))) (oA_s ha) (by rw [celA_o la, fdA_set (h := h.2.2.2) hk (v := tv w (.inl v)) (by show Value.int ((sI h.2.2.2 a k v).1 a k) = .int v; rw [sI_s]) (fun j p hj => sI_o hj)]) (fun q hq => aI_ne q hq)
    rw [e1] at hP1
    exact K H1 locs1 ls ⟨hP1, hz⟩ hS1 hl
theorem A_putL (X : OKA κ cc nL own nm lv mc ms) {a ci k idx : Nat} {v : Int64} (ha : oA h ci a = true) (hf : FP own idx ci k (1, 0)) (hk : (knA ci)[k]? = some (1, 0)) (hd : decode cc pc = .ok (.putfield idx, 3)) (K : JA κ (pc + 3) L st (put4 h (sL h.2.2.2 a k v)) r) : JA κ pc L (.inr (.inl v) :: .inr (.inr a) :: st) h r := by
  obtain ⟨p, l, e, R, s, m, args, below, meth, c, w⟩ := κ
  obtain ⟨hx, hb, hml, hr, hown, hts, hlk, hfr, hlo, hmc, hms, hnm, hba, hw, hK, hN⟩ := X
  intro H locs ls ⟨hP, hz⟩ hS hl
  have e0 : tv w (.inr (.inr a)) = .ref (w.2.2 a) := tv_ref (by have := (lz_s (oA_s ha)).2.1; omega)
  obtain ⟨C, T, N, ty, h1, h2, h3, h4, h5, h6, h7, h8, h9⟩ := hf
  rw [List.map_cons, List.map_cons, e0]
  obtain ⟨n1, n2⟩ := tyL h9
  have la := (lz_s (oA_s ha)).1
  refine va_put (v := tv w (.inr (.inl v))) hx hb hts h2 ty h6 h7 hown hK hP (wdA_D hw _ _) hS (a - 1) ((wdA_at (oA_s ha)).trans (by rw [celA_o la])) h1 k h3 (hts _ h4) (fun _ q => q) h8 (h6 k h3) n1 n2 ?_ hd (fun H1 locs1 hP1 hD1 hS1 => ?_)
  · rw [List.length_mapIdx]
    exact (List.getElem?_eq_some_iff.mp hk).1
  · have e1 := wdA_set (n := h.1) (h := h.2.2.2) (h' := sL h.2.2.2 a k v) (w := w) (e := .inr (ci, ((knA ci).mapIdx (fdV w h.2.2.2 a)).set k (tv w (.inr (.inl v))))) (oA_s ha) (by rw [celA_o la, fdA_set (h := h.2.2.2) hk (v := tv w (.inr (.inl v))) (by show Value.long ((sL h.2.2.2 a k v).2.1 a k) = .long v; rw [sL_s]) (fun j p hj => sL_o hj)]) (fun q hq => aL_ne q hq)
    rw [e1] at hP1
    exact K H1 locs1 ls ⟨hP1, hz⟩ hS1 hl
theorem A_putZ (X : OKA κ cc nL own nm lv mc ms) {a ci k idx : Nat} {v : Int32} (hz2 : isZ v = true) (ha : oA h ci a = true) (hf : FP own idx ci k (0, 1)) (hk : (knA ci)[k]? = some (0, 1)) (hd : decode cc pc = .ok (.putfield idx, 3)) (K : JA κ (pc + 3) L st (put4 h (sI h.2.2.2 a k v)) r) : JA κ pc L (.inl v :: .inr (.inr a) :: st) h r := by
  obtain ⟨p, l, e, R, s, m, args, below, meth, c, w⟩ := κ
  obtain ⟨hx, hb, hml, hr, hown, hts, hlk, hfr, hlo, hmc, hms, hnm, hba, hw, hK, hN⟩ := X
  intro H locs ls ⟨hP, hz⟩ hS hl
  have e0 : tv w (.inr (.inr a)) = .ref (w.2.2 a) := tv_ref (by have := (lz_s (oA_s ha)).2.1; omega)
  obtain ⟨C, T, N, ty, h1, h2, h3, h4, h5, h6, h7, h8, h9⟩ := hf
  rw [List.map_cons, List.map_cons, e0]
  obtain ⟨n1, n2⟩ := tyZ hz2 h9
  have la := (lz_s (oA_s ha)).1
  refine va_put (v := tv w (.inl v)) hx hb hts h2 ty h6 h7 hown hK hP (wdA_D hw _ _) hS (a - 1) ((wdA_at (oA_s ha)).trans (by rw [celA_o la])) h1 k h3 (hts _ h4) (fun _ q => q) h8 (h6 k h3) n1 n2 ?_ hd (fun H1 locs1 hP1 hD1 hS1 => ?_)
  · rw [List.length_mapIdx]
    exact (List.getElem?_eq_some_iff.mp hk).1
  · have e1 := wdA_set (n := h.1) (h := h.2.2.2) (h' := sI h.2.2.2 a k v) (w := w) (e := .inr (ci, ((knA ci).mapIdx (fdV w h.2.2.2 a)).set k (tv w (.inl v)))) (oA_s ha) (by rw [celA_o la, fdA_set (h := h.2.2.2) hk (v := tv w (.inl v)) (by show Value.int ((sI h.2.2.2 a k v).1 a k) = .int v; rw [sI_s]) (fun j p hj => sI_o hj)]) (fun q hq => aI_ne q hq)
    rw [e1] at hP1
    exact K H1 locs1 ls ⟨hP1, hz⟩ hS1 hl
theorem A_putR (X : OKA κ cc nL own nm lv mc ms) {a ci k idx v : Nat} (ha : oA h ci a = true) (hf : FP own idx ci k (3, 0)) (hk : (knA ci)[k]? = some (3, 0)) (hd : decode cc pc = .ok (.putfield idx, 3)) (K : JA κ (pc + 3) L st (put4 h (sR h.2.2.2 a k v)) r) : JA κ pc L (.inr (.inr v) :: .inr (.inr a) :: st) h r := by
  obtain ⟨p, l, e, R, s, m, args, below, meth, c, w⟩ := κ
  obtain ⟨hx, hb, hml, hr, hown, hts, hlk, hfr, hlo, hmc, hms, hnm, hba, hw, hK, hN⟩ := X
  intro H locs ls ⟨hP, hz⟩ hS hl
  have e0 : tv w (.inr (.inr a)) = .ref (w.2.2 a) := tv_ref (by have := (lz_s (oA_s ha)).2.1; omega)
  obtain ⟨C, T, N, ty, h1, h2, h3, h4, h5, h6, h7, h8, h9⟩ := hf
  rw [List.map_cons, List.map_cons, e0]
  obtain ⟨n1, n2⟩ := tyR (v := rr w.2.2 v) h9
  have la := (lz_s (oA_s ha)).1
  refine va_put (v := tv w (.inr (.inr v))) hx hb hts h2 ty h6 h7 hown hK hP (wdA_D hw _ _) hS (a - 1) ((wdA_at (oA_s ha)).trans (by rw [celA_o la])) h1 k h3 (hts _ h4) (fun _ q => q) h8 (h6 k h3) n1 n2 ?_ hd (fun H1 locs1 hP1 hD1 hS1 => ?_)
  · rw [List.length_mapIdx]
    exact (List.getElem?_eq_some_iff.mp hk).1
  · have e1 := wdA_set (n := h.1) (h := h.2.2.2) (h' := sR h.2.2.2 a k v) (w := w) (e := .inr (ci, ((knA ci).mapIdx (fdV w h.2.2.2 a)).set k (tv w (.inr (.inr v))))) (oA_s ha) (by rw [celA_o la, fdA_set (h := h.2.2.2) hk (v := tv w (.inr (.inr v))) (by show va_rf (rr w.2.2 ((sR h.2.2.2 a k v).2.2 a k)) = _; rw [sR_s]; rfl) (fun j p hj => sR_o hj)]) (fun q hq => aR_ne q hq)
    rw [e1] at hP1
    exact K H1 locs1 ls ⟨hP1, hz⟩ hS1 hl
theorem A_putF (X : OKA κ cc nL own nm lv mc ms) {a ci k idx v : Nat} (ha : oA h ci a = true) (hf : FQ own idx ci k) (hk : (knA ci)[k]? = some (3, 0)) (hin : nm = "<init>") (hd : decode cc pc = .ok (.putfield idx, 3)) (K : JA κ (pc + 3) L st (put4 h (sR h.2.2.2 a k v)) r) : JA κ pc L (.inr (.inr v) :: .inr (.inr a) :: st) h r := by
  obtain ⟨p, l, e, R, s, m, args, below, meth, c, w⟩ := κ
  obtain ⟨hx, hb, hml, hr, hown, hts, hlk, hfr, hlo, hmc, hms, hnm, hba, hw, hK, hN⟩ := X
  intro H locs ls ⟨hP, hz⟩ hS hl
  have e0 : tv w (.inr (.inr a)) = .ref (w.2.2 a) := tv_ref (by have := (lz_s (oA_s ha)).2.1; omega)
  obtain ⟨C, T, N, ty, h1, h2, h3, h4, h6, h7, h8, h9, hde⟩ := hf
  rw [List.map_cons, List.map_cons, e0]
  obtain ⟨n1, n2⟩ := tyR2 (v := rr w.2.2 v) h9
  have la := (lz_s (oA_s ha)).1
  refine va_putF (v := tv w (.inr (.inr v))) hx hb hts h2 ty h6 h7 hown hK hP (wdA_D hw _ _) hS (a - 1) ((wdA_at (oA_s ha)).trans (by rw [celA_o la])) h1 k h3 (hts _ h4) (fun _ q => q) h8 (hnm.trans hin) hde (h6 k h3) n1 n2 ?_ hd (fun H1 locs1 hP1 hD1 hS1 => ?_)
  · rw [List.length_mapIdx]
    exact (List.getElem?_eq_some_iff.mp hk).1
  · have e1 := wdA_set (n := h.1) (h := h.2.2.2) (h' := sR h.2.2.2 a k v) (w := w) (e := .inr (ci, ((knA ci).mapIdx (fdV w h.2.2.2 a)).set k (tv w (.inr (.inr v))))) (oA_s ha) (by rw [celA_o la, fdA_set (h := h.2.2.2) hk (v := tv w (.inr (.inr v))) (by show va_rf (rr w.2.2 ((sR h.2.2.2 a k v).2.2 a k)) = _; rw [sR_s]; rfl) (fun j p hj => sR_o hj)]) (fun q hq => aR_ne q hq)
    rw [e1] at hP1
    exact K H1 locs1 ls ⟨hP1, hz⟩ hS1 hl
theorem A_iaload (X : OKA κ cc nL own nm lv mc ms) {a : Nat} {i : Int32} (hg : aA h 0 i a = true) (hd : decode cc pc = .ok (.iaload, 1)) (K : JA κ (pc + 1) L (.inl (h.2.2.2.1 a i.toNatClampNeg) :: st) h r) : JA κ pc L (.inl i :: .inr (.inr a) :: st) h r := by
  obtain ⟨p, l, e, R, s, m, args, below, meth, c, w⟩ := κ
  obtain ⟨hx, hb, hml, hr, hown, hts, hlk, hfr, hlo, hmc, hms, hnm, hba, hw, hK, hN⟩ := X
  intro H locs ls ⟨hP, hz⟩ hS hl
  obtain ⟨n, ha, hi⟩ := aA_s hg
  have e0 : tv w (.inr (.inr a)) = .ref (w.2.2 a) := tv_ref (by have := (lz_s ha).2.1; omega)
  rw [List.map_cons, List.map_cons, e0]
  exact va_iald hx hb hK hP (a - 1) 0 ((wdA_at ha).trans (by rw [celA_a (lz_s ha).1]; rfl)) rfl (inb_in hi) hd (K H locs ls ⟨hP, hz⟩ hS hl)
theorem A_iastore (X : OKA κ cc nL own nm lv mc ms) {a : Nat} {i : Int32} {x : Int32} (hg : aA h 0 i a = true) (hd : decode cc pc = .ok (.iastore, 1)) (K : JA κ (pc + 1) L st (put4 h (sI h.2.2.2 a i.toNatClampNeg x)) r) : JA κ pc L (.inl x :: .inl i :: .inr (.inr a) :: st) h r := by
  obtain ⟨p, l, e, R, s, m, args, below, meth, c, w⟩ := κ
  obtain ⟨hx, hb, hml, hr, hown, hts, hlk, hfr, hlo, hmc, hms, hnm, hba, hw, hK, hN⟩ := X
  intro H locs ls ⟨hP, hz⟩ hS hl
  obtain ⟨n, ha, hi⟩ := aA_s hg
  have e0 : tv w (.inr (.inr a)) = .ref (w.2.2 a) := tv_ref (by have := (lz_s ha).2.1; omega)
  rw [List.map_cons, List.map_cons, List.map_cons, e0]
  refine va_iast hx hb hK hP (wdA_D hw _ _) hS (a - 1) 0 ((wdA_at ha).trans (by rw [celA_a (lz_s ha).1]; rfl)) rfl (inb_in hi) hd (fun H1 locs1 hP1 hD1 hS1 => ?_)
  have e1 := wdA_set (n := h.1) (h := h.2.2.2) (h' := sI h.2.2.2 a i.toNatClampNeg x) (w := w) (e := .inl (w.2.1 0, n, .inl (upd (h.2.2.2.1 a) i.toNatClampNeg x))) ha (by
    rw [celA_a (lz_s ha).1]
    show (Sum.inl (w.2.1 0, n, Sum.inl (fun j => if a = a ∧ j = i.toNatClampNeg then x else h.2.2.2.1 a j)) : va_E) = _
    simp only [true_and]
    rfl) (fun q hq => aI_ne q hq)
  rw [e1] at hP1
  exact K H1 locs1 ls ⟨hP1, hz⟩ hS1 hl
theorem A_lastore (X : OKA κ cc nL own nm lv mc ms) {a : Nat} {i : Int32} {x : Int64} (hg : aA h 1 i a = true) (hd : decode cc pc = .ok (.lastore, 1)) (K : JA κ (pc + 1) L st (put4 h (sL h.2.2.2 a i.toNatClampNeg x)) r) : JA κ pc L (.inr (.inl x) :: .inl i :: .inr (.inr a) :: st) h r := by
  obtain ⟨p, l, e, R, s, m, args, below, meth, c, w⟩ := κ
  obtain ⟨hx, hb, hml, hr, hown, hts, hlk, hfr, hlo, hmc, hms, hnm, hba, hw, hK, hN⟩ := X
  intro H locs ls ⟨hP, hz⟩ hS hl
  obtain ⟨n, ha, hi⟩ := aA_s hg
  have e0 : tv w (.inr (.inr a)) = .ref (w.2.2 a) := tv_ref (by have := (lz_s ha).2.1; omega)
  rw [List.map_cons, List.map_cons, List.map_cons, e0]
  refine va_last hx hb hK hP (wdA_D hw _ _) hS (a - 1) 1 ((wdA_at ha).trans (by rw [celA_a (lz_s ha).1]; rfl)) rfl (inb_in hi) hd (fun H1 locs1 hP1 hD1 hS1 => ?_)
  have e1 := wdA_set (n := h.1) (h := h.2.2.2) (h' := sL h.2.2.2 a i.toNatClampNeg x) (w := w) (e := .inl (w.2.1 1, n, .inr (.inl (vp_updL (h.2.2.2.2.1 a) i.toNatClampNeg x)))) ha (by
    rw [celA_a (lz_s ha).1]
    show (Sum.inl (w.2.1 1, n, Sum.inr (Sum.inl (fun j => if a = a ∧ j = i.toNatClampNeg then x else h.2.2.2.2.1 a j))) : va_E) = _
    simp only [true_and]
    rfl) (fun q hq => aL_ne q hq)
  rw [e1] at hP1
  exact K H1 locs1 ls ⟨hP1, hz⟩ hS1 hl
theorem A_aastoreR (X : OKA κ cc nL own nm lv mc ms) {a v : Nat} {i : Int32} (hg : aA h 4 i a = true) (hv : oA h 5 v = true) (hd : decode cc pc = .ok (.aastore, 1)) (K : JA κ (pc + 1) L st (put4 h (sR h.2.2.2 a i.toNatClampNeg v)) r) : JA κ pc L (.inr (.inr v) :: .inl i :: .inr (.inr a) :: st) h r := by
  obtain ⟨p, l, e, R, s, m, args, below, meth, c, w⟩ := κ
  obtain ⟨hx, hb, hml, hr, hown, hts, hlk, hfr, hlo, hmc, hms, hnm, hba, hw, hK, hN⟩ := X
  intro H locs ls ⟨hP, hz⟩ hS hl
  obtain ⟨n, ha, hi⟩ := aA_s hg
  have e0 : tv w (.inr (.inr a)) = .ref (w.2.2 a) := tv_ref (by have := (lz_s ha).2.1; omega)
  have v0 : v ≠ 0 := by have := (lz_s (oA_s hv)).2.1; omega
  have e2 : tv w (.inr (.inr v)) = .ref (w.2.2 v) := tv_ref v0
  rw [List.map_cons, List.map_cons, List.map_cons, e0, e2]
  refine va_astq hx hb hK hP (wdA_D hw _ _) hS (a - 1) 4 (v - 1) 5 ((wdA_at ha).trans (by rw [celA_a (lz_s ha).1]; rfl)) rfl ((wdA_at (oA_s hv)).trans (by rw [celA_o (lz_s (oA_s hv)).1])) (show vwCl[5]? = some ("StruckWords$Row", TX7, 2) from rfl) (inb_in hi) hd (fun H1 locs1 hP1 hD1 hS1 => ?_)
  have e1 := wdA_set (n := h.1) (h := h.2.2.2) (h' := sR h.2.2.2 a i.toNatClampNeg v) (w := w) (e := .inl (w.2.1 4, n, .inr (.inr (.inr (.inr (va_up (fun j => rr w.2.2 (h.2.2.2.2.2 a j)) i.toNatClampNeg (some (w.2.2 v)))))))) ha (by
    rw [celA_a (lz_s ha).1]
    show (Sum.inl (w.2.1 4, n, Sum.inr (Sum.inr (Sum.inr (Sum.inr (fun j => rr w.2.2 (if a = a ∧ j = i.toNatClampNeg then v else h.2.2.2.2.2 a j)))))) : va_E) = _
    simp only [true_and]
    congr 7
    funext j
    unfold va_up
    by_cases hj : j = i.toNatClampNeg
    · rw [if_pos hj, if_pos hj]
      unfold rr
      rw [if_neg v0]
    · rw [if_neg hj, if_neg hj]) (fun q hq => aR_ne q hq)
  rw [e1] at hP1
  exact K H1 locs1 ls ⟨hP1, hz⟩ hS1 hl
theorem A_aastoreM (X : OKA κ cc nL own nm lv mc ms) {a v : Nat} {i : Int32} (hg : aA h 5 i a = true) (hv : oA h 3 v = true) (hd : decode cc pc = .ok (.aastore, 1)) (K : JA κ (pc + 1) L st (put4 h (sR h.2.2.2 a i.toNatClampNeg v)) r) : JA κ pc L (.inr (.inr v) :: .inl i :: .inr (.inr a) :: st) h r := by
  obtain ⟨p, l, e, R, s, m, args, below, meth, c, w⟩ := κ
  obtain ⟨hx, hb, hml, hr, hown, hts, hlk, hfr, hlo, hmc, hms, hnm, hba, hw, hK, hN⟩ := X
  intro H locs ls ⟨hP, hz⟩ hS hl
  obtain ⟨n, ha, hi⟩ := aA_s hg
  have e0 : tv w (.inr (.inr a)) = .ref (w.2.2 a) := tv_ref (by have := (lz_s ha).2.1; omega)
  have v0 : v ≠ 0 := by have := (lz_s (oA_s hv)).2.1; omega
  have e2 : tv w (.inr (.inr v)) = .ref (w.2.2 v) := tv_ref v0
  rw [List.map_cons, List.map_cons, List.map_cons, e0, e2]
  refine va_astq hx hb hK hP (wdA_D hw _ _) hS (a - 1) 5 (v - 1) 3 ((wdA_at ha).trans (by rw [celA_a (lz_s ha).1]; rfl)) rfl ((wdA_at (oA_s hv)).trans (by rw [celA_o (lz_s (oA_s hv)).1])) (show vwCl[3]? = some ("StruckWords$Matter", TX5, 4) from rfl) (inb_in hi) hd (fun H1 locs1 hP1 hD1 hS1 => ?_)
  have e1 := wdA_set (n := h.1) (h := h.2.2.2) (h' := sR h.2.2.2 a i.toNatClampNeg v) (w := w) (e := .inl (w.2.1 5, n, .inr (.inr (.inr (.inr (va_up (fun j => rr w.2.2 (h.2.2.2.2.2 a j)) i.toNatClampNeg (some (w.2.2 v)))))))) ha (by
    rw [celA_a (lz_s ha).1]
    show (Sum.inl (w.2.1 5, n, Sum.inr (Sum.inr (Sum.inr (Sum.inr (fun j => rr w.2.2 (if a = a ∧ j = i.toNatClampNeg then v else h.2.2.2.2.2 a j)))))) : va_E) = _
    simp only [true_and]
    congr 7
    funext j
    unfold va_up
    by_cases hj : j = i.toNatClampNeg
    · rw [if_pos hj, if_pos hj]
      unfold rr
      rw [if_neg v0]
    · rw [if_neg hj, if_neg hj]) (fun q hq => aR_ne q hq)
  rw [e1] at hP1
  exact K H1 locs1 ls ⟨hP1, hz⟩ hS1 hl
theorem A_alen (X : OKA κ cc nL own nm lv mc ms) {a ty : Nat} (hg : lA h ty a = true) (hty : ty < 6) (hd : decode cc pc = .ok (.arraylength, 1)) (K : JA κ (pc + 1) L (.inl (Int32.ofNat (aln a)) :: st) h r) : JA κ pc L (.inr (.inr a) :: st) h r := by
  obtain ⟨p, l, e, R, s, m, args, below, meth, c, w⟩ := κ
  obtain ⟨hx, hb, hml, hr, hown, hts, hlk, hfr, hlo, hmc, hms, hnm, hba, hw, hK, hN⟩ := X
  intro H locs ls ⟨hP, hz⟩ hS hl
  obtain ⟨n, ha⟩ := lA_s hg
  have e0 : tv w (.inr (.inr a)) = .ref (w.2.2 a) := tv_ref (by have := (lz_s ha).2.1; omega)
  rw [List.map_cons, e0]
  obtain ⟨t, ht⟩ : ∃ t, (tys w)[ty]? = some (w.2.1 ty, t) := by
    rcases (show ty = 0 ∨ ty = 1 ∨ ty = 2 ∨ ty = 3 ∨ ty = 4 ∨ ty = 5 by omega) with rfl | rfl | rfl | rfl | rfl | rfl <;> exact ⟨_, rfl⟩
  exact va_alen hx hb hK hP (a - 1) ty ((wdA_at ha).trans (by rw [celA_a (lz_s ha).1])) ht (show Int32.ofNat n = Int32.ofNat (aln a) by unfold aln; rw [(lz_s ha).1]) hd (K H locs ls ⟨hP, hz⟩ hS hl)
theorem A_new (X : OKA κ cc nL own nm lv mc ms) {idx ci N : Nat} {C : String} {T : u_T} {ty : Nat → FieldType} (hq : vwCl[ci]? = some (C, T, N)) (hin : ∀ w ∈ u_ws C T N, w ∈ tbl) (hty : ∀ k, k < N → parseFieldDescriptor (T k).2.2.1 = some (ty k)) (hcl : Cond.classLink own idx C ∈ tbl) (hins : Cond.instantiable C N ∈ tbl) (hini : Cond.initialized C ∈ tbl) (hdf : ∀ j : Nat, j < N → defaultValue (ty j) = vp_V ((knA ci).map dfv) j) (hk2 : (knA ci).all (fun q => decide (q.1 ≠ 2)) = true) (hg : nwOk h ci N mc ms = true) (hd : decode cc pc = .ok (.new idx, 3)) (K : JA κ (pc + 3) L (.inr (.inr (h.1 + 1)) :: st) (h.1 + 1, h.2.1, h.2.2.1 + N, nw h.2.2.2 (h.1 + 1)) r) : JA κ pc L st h r := by
  obtain ⟨p, l, e, R, s, m, args, below, meth, c, w⟩ := κ
  obtain ⟨hx, hb, hml, hr, hown, hts, hlk, hfr, hlo, hmc, hms, hnm, hba, hw, hK, hN⟩ := X
  intro H locs ls ⟨hP, hz⟩ hS hl
  obtain ⟨g1, ga, gb, g2, g3⟩ := nwOk_s hg
  refine W_sz (fun hu => ?_)
  have hs0 := hz
  have hz := sz_of hw hP ga gb hs0 hu
  have ec : h.1 + 1 - h.2.1 = h.1 - h.2.1 + 1 := by omega
  have hKn := hK.1 ci _ hq
  refine W.newcK hx hb hown (hts _ hcl) (hts _ hins) (hts _ hini) rfl hd (by omega) (by omega) hKn.2.1 rfl fun H1 kC hkC e1 z1 o1 => ?_
  have K := K H1 locs ls
  rw [List.map_cons, tv_ref (by omega), ← hz] at K
  dsimp only at K
  rw [ec] at K
  refine K ⟨?_, hs0⟩ ⟨Nat.le_trans hS.1 (by omega), fun x h1 h2 => (o1 x (Nat.lt_of_lt_of_le h1 hS.1)).trans (hS.2.1 x h1 h2), hS.2.2⟩ hl
  have e2 := wdA_push (w := w) (n := h.1) (h := h.2.2.2) (h' := nw h.2.2.2 (h.1 + 1)) (e := .inr (ci, (knA ci).map dfv)) (by rw [celA_o g1, map_dfv hk2]) (fun q hq => nw_ne q (by omega))
  show va_P w.1 vwCl (wdA w (h.1 + 1) (nw h.2.2.2 (h.1 + 1))) H1
  rw [← e2, ← hz]
  refine (hP.kept (fun k x hx => o1 x.1 ((hP k x hx).lt))).app (fun k x hx => ?_)
  have hzz : k < 1 := (List.getElem?_eq_some_iff.mp hx).1
  rw [show k = 0 by omega] at hx
  cases hx
  exact ⟨_, hq, (u_born ty hts hin hKn hkC e1 hty).to hdf⟩
theorem A_newI (X : OKA κ cc nL own nm lv mc ms) {x : Int32} (hcl : Cond.arrayClass .int ∈ tbl) (hg : naOk h 0 x mc ms = true) (hd : decode cc pc = .ok (.newarray .int, 2)) (K : JA κ (pc + 2) L (.inr (.inr (h.1 + 1)) :: st) (h.1 + 1, h.2.1, h.2.2.1 + x.toNatClampNeg, nw h.2.2.2 (h.1 + 1)) r) : JA κ pc L (.inl x :: st) h r := by
  obtain ⟨p, l, e, R, s, m, args, below, meth, c, w⟩ := κ
  obtain ⟨hx, hb, hml, hr, hown, hts, hlk, hfr, hlo, hmc, hms, hnm, hba, hw, hK, hN⟩ := X
  intro H locs ls ⟨hP, hz⟩ hS hl
  obtain ⟨g0, g1, ga, gb, g2, g3⟩ := naOk_s hg
  refine W_sz (fun hu => ?_)
  have hs0 := hz
  have hz := sz_of hw hP ga gb hs0 hu
  have ec : h.1 + 1 - h.2.1 = h.1 - h.2.1 + 1 := by omega
  refine va_newaK hx hb (atype := .int) (hts _ hcl) rfl hd rfl g0 rfl (by have := na_small g1; show _ * _ ≤ 536870912; rw [show componentBytes (newarray.typeOf .int) = 4 from rfl]; omega) (by omega) (by omega) rfl fun H1 cA e1 z1 o1 hAr hNm => ?_
  have hcA : cA = w.2.1 0 := by
    have h1 := (hK.2 0 _ rfl).2
    exact Option.some.inj (hNm.symm.trans h1)
  subst hcA
  have K := K H1 locs ls
  rw [List.map_cons, tv_ref (by omega), ← hz] at K
  dsimp only at K
  rw [ec] at K
  refine K ⟨?_, hs0⟩ ⟨Nat.le_trans hS.1 (by omega), fun x h1 h2 => (o1 x (Nat.lt_of_lt_of_le h1 hS.1)).trans (hS.2.1 x h1 h2), hS.2.2⟩ hl
  have e2 := wdA_push (w := w) (n := h.1) (h := h.2.2.2) (h' := nw h.2.2.2 (h.1 + 1)) (e := .inl (w.2.1 0, x.toNatClampNeg, .inl (fun _ => 0))) (by rw [celA_a g1]; unfold arA nw; simp) (fun q hq => nw_ne q (by omega))
  show va_P w.1 vwCl (wdA w (h.1 + 1) (nw h.2.2.2 (h.1 + 1))) H1
  rw [← e2, ← hz]
  refine (hP.kept (fun k x hx => o1 x.1 ((hP k x hx).lt))).app (fun k x hx => ?_)
  have hzz : k < 1 := (List.getElem?_eq_some_iff.mp hx).1
  rw [show k = 0 by omega] at hx
  cases hx
  exact e1
theorem A_newL (X : OKA κ cc nL own nm lv mc ms) {x : Int32} (hcl : Cond.arrayClass .long ∈ tbl) (hg : naOk h 1 x mc ms = true) (hd : decode cc pc = .ok (.newarray .long, 2)) (K : JA κ (pc + 2) L (.inr (.inr (h.1 + 1)) :: st) (h.1 + 1, h.2.1, h.2.2.1 + x.toNatClampNeg, nw h.2.2.2 (h.1 + 1)) r) : JA κ pc L (.inl x :: st) h r := by
  obtain ⟨p, l, e, R, s, m, args, below, meth, c, w⟩ := κ
  obtain ⟨hx, hb, hml, hr, hown, hts, hlk, hfr, hlo, hmc, hms, hnm, hba, hw, hK, hN⟩ := X
  intro H locs ls ⟨hP, hz⟩ hS hl
  obtain ⟨g0, g1, ga, gb, g2, g3⟩ := naOk_s hg
  refine W_sz (fun hu => ?_)
  have hs0 := hz
  have hz := sz_of hw hP ga gb hs0 hu
  have ec : h.1 + 1 - h.2.1 = h.1 - h.2.1 + 1 := by omega
  refine va_newaK hx hb (atype := .long) (hts _ hcl) rfl hd rfl g0 rfl (by have := na_small g1; show _ * _ ≤ 536870912; rw [show componentBytes (newarray.typeOf .long) = 8 from rfl]; omega) (by omega) (by omega) rfl fun H1 cA e1 z1 o1 hAr hNm => ?_
  have hcA : cA = w.2.1 1 := by
    have h1 := (hK.2 1 _ rfl).2
    exact Option.some.inj (hNm.symm.trans h1)
  subst hcA
  have K := K H1 locs ls
  rw [List.map_cons, tv_ref (by omega), ← hz] at K
  dsimp only at K
  rw [ec] at K
  refine K ⟨?_, hs0⟩ ⟨Nat.le_trans hS.1 (by omega), fun x h1 h2 => (o1 x (Nat.lt_of_lt_of_le h1 hS.1)).trans (hS.2.1 x h1 h2), hS.2.2⟩ hl
  have e2 := wdA_push (w := w) (n := h.1) (h := h.2.2.2) (h' := nw h.2.2.2 (h.1 + 1)) (e := .inl (w.2.1 1, x.toNatClampNeg, .inr (.inl (fun _ => 0)))) (by rw [celA_a g1]; unfold arA nw; simp) (fun q hq => nw_ne q (by omega))
  show va_P w.1 vwCl (wdA w (h.1 + 1) (nw h.2.2.2 (h.1 + 1))) H1
  rw [← e2, ← hz]
  refine (hP.kept (fun k x hx => o1 x.1 ((hP k x hx).lt))).app (fun k x hx => ?_)
  have hzz : k < 1 := (List.getElem?_eq_some_iff.mp hx).1
  rw [show k = 0 by omega] at hx
  cases hx
  exact e1
theorem A_newB (X : OKA κ cc nL own nm lv mc ms) {x : Int32} (hcl : Cond.arrayClass .byte ∈ tbl) (hg : naOk h 2 x mc ms = true) (hd : decode cc pc = .ok (.newarray .byte, 2)) (K : JA κ (pc + 2) L (.inr (.inr (h.1 + 1)) :: st) (h.1 + 1, h.2.1, h.2.2.1 + x.toNatClampNeg, nw h.2.2.2 (h.1 + 1)) r) : JA κ pc L (.inl x :: st) h r := by
  obtain ⟨p, l, e, R, s, m, args, below, meth, c, w⟩ := κ
  obtain ⟨hx, hb, hml, hr, hown, hts, hlk, hfr, hlo, hmc, hms, hnm, hba, hw, hK, hN⟩ := X
  intro H locs ls ⟨hP, hz⟩ hS hl
  obtain ⟨g0, g1, ga, gb, g2, g3⟩ := naOk_s hg
  refine W_sz (fun hu => ?_)
  have hs0 := hz
  have hz := sz_of hw hP ga gb hs0 hu
  have ec : h.1 + 1 - h.2.1 = h.1 - h.2.1 + 1 := by omega
  refine va_newaK hx hb (atype := .byte) (hts _ hcl) rfl hd rfl g0 rfl (by have := na_small g1; show _ * _ ≤ 536870912; rw [show componentBytes (newarray.typeOf .byte) = 1 from rfl]; omega) (by omega) (by omega) rfl fun H1 cA e1 z1 o1 hAr hNm => ?_
  have hcA : cA = w.2.1 2 := by
    have h1 := (hK.2 2 _ rfl).2
    exact Option.some.inj (hNm.symm.trans h1)
  subst hcA
  have K := K H1 locs ls
  rw [List.map_cons, tv_ref (by omega), ← hz] at K
  dsimp only at K
  rw [ec] at K
  refine K ⟨?_, hs0⟩ ⟨Nat.le_trans hS.1 (by omega), fun x h1 h2 => (o1 x (Nat.lt_of_lt_of_le h1 hS.1)).trans (hS.2.1 x h1 h2), hS.2.2⟩ hl
  have e2 := wdA_push (w := w) (n := h.1) (h := h.2.2.2) (h' := nw h.2.2.2 (h.1 + 1)) (e := .inl (w.2.1 2, x.toNatClampNeg, .inl (fun _ => 0))) (by rw [celA_a g1]; unfold arA nw; simp) (fun q hq => nw_ne q (by omega))
  show va_P w.1 vwCl (wdA w (h.1 + 1) (nw h.2.2.2 (h.1 + 1))) H1
  rw [← e2, ← hz]
  refine (hP.kept (fun k x hx => o1 x.1 ((hP k x hx).lt))).app (fun k x hx => ?_)
  have hzz : k < 1 := (List.getElem?_eq_some_iff.mp hx).1
  rw [show k = 0 by omega] at hx
  cases hx
  exact e1
theorem A_newZ (X : OKA κ cc nL own nm lv mc ms) {x : Int32} (hcl : Cond.arrayClass .boolean ∈ tbl) (hg : naOk h 3 x mc ms = true) (hd : decode cc pc = .ok (.newarray .boolean, 2)) (K : JA κ (pc + 2) L (.inr (.inr (h.1 + 1)) :: st) (h.1 + 1, h.2.1, h.2.2.1 + x.toNatClampNeg, nw h.2.2.2 (h.1 + 1)) r) : JA κ pc L (.inl x :: st) h r := by
  obtain ⟨p, l, e, R, s, m, args, below, meth, c, w⟩ := κ
  obtain ⟨hx, hb, hml, hr, hown, hts, hlk, hfr, hlo, hmc, hms, hnm, hba, hw, hK, hN⟩ := X
  intro H locs ls ⟨hP, hz⟩ hS hl
  obtain ⟨g0, g1, ga, gb, g2, g3⟩ := naOk_s hg
  refine W_sz (fun hu => ?_)
  have hs0 := hz
  have hz := sz_of hw hP ga gb hs0 hu
  have ec : h.1 + 1 - h.2.1 = h.1 - h.2.1 + 1 := by omega
  refine va_newaK hx hb (atype := .boolean) (hts _ hcl) rfl hd rfl g0 rfl (by have := na_small g1; show _ * _ ≤ 536870912; rw [show componentBytes (newarray.typeOf .boolean) = 1 from rfl]; omega) (by omega) (by omega) rfl fun H1 cA e1 z1 o1 hAr hNm => ?_
  have hcA : cA = w.2.1 3 := by
    have h1 := (hK.2 3 _ rfl).2
    exact Option.some.inj (hNm.symm.trans h1)
  subst hcA
  have K := K H1 locs ls
  rw [List.map_cons, tv_ref (by omega), ← hz] at K
  dsimp only at K
  rw [ec] at K
  refine K ⟨?_, hs0⟩ ⟨Nat.le_trans hS.1 (by omega), fun x h1 h2 => (o1 x (Nat.lt_of_lt_of_le h1 hS.1)).trans (hS.2.1 x h1 h2), hS.2.2⟩ hl
  have e2 := wdA_push (w := w) (n := h.1) (h := h.2.2.2) (h' := nw h.2.2.2 (h.1 + 1)) (e := .inl (w.2.1 3, x.toNatClampNeg, .inl (fun _ => 0))) (by rw [celA_a g1]; unfold arA nw; simp) (fun q hq => nw_ne q (by omega))
  show va_P w.1 vwCl (wdA w (h.1 + 1) (nw h.2.2.2 (h.1 + 1))) H1
  rw [← e2, ← hz]
  refine (hP.kept (fun k x hx => o1 x.1 ((hP k x hx).lt))).app (fun k x hx => ?_)
  have hzz : k < 1 := (List.getElem?_eq_some_iff.mp hx).1
  rw [show k = 0 by omega] at hx
  cases hx
  exact e1
theorem A_anewR (X : OKA κ cc nL own nm lv mc ms) {x : Int32} {idx : Nat} (hcl : Cond.classLink own idx "StruckWords$Row" ∈ tbl) (hg : naOk h 4 x mc ms = true) (hd : decode cc pc = .ok (.anewarray idx, 3)) (K : JA κ (pc + 3) L (.inr (.inr (h.1 + 1)) :: st) (h.1 + 1, h.2.1, h.2.2.1 + x.toNatClampNeg, nw h.2.2.2 (h.1 + 1)) r) : JA κ pc L (.inl x :: st) h r := by
  obtain ⟨p, l, e, R, s, m, args, below, meth, c, w⟩ := κ
  obtain ⟨hx, hb, hml, hr, hown, hts, hlk, hfr, hlo, hmc, hms, hnm, hba, hw, hK, hN⟩ := X
  intro H locs ls ⟨hP, hz⟩ hS hl
  obtain ⟨g0, g1, ga, gb, g2, g3⟩ := naOk_s hg
  refine W_sz (fun hu => ?_)
  have hs0 := hz
  have hz := sz_of hw hP ga gb hs0 hu
  have ec : h.1 + 1 - h.2.1 = h.1 - h.2.1 + 1 := by omega
  refine W.anew hx hb hown (hts _ hcl) (va_AO.use hN.2.1) rfl hd rfl g0 (by have := na_small g1; omega) (by omega) (by omega) fun cA kA comp f1 f2 f3 f4 => ?_
  have hcA : cA = w.2.1 4 := by
    obtain ⟨-, h1⟩ := hK.2 4 _ rfl
    obtain ⟨k9, c9, h2, h3, h4, h5⟩ := h1
    exact Option.some.inj (f1.symm.trans h5)
  subst hcA
  generalize hH1 : H.push ({ cls := w.2.1 4, slots := Array.replicate x.toNatClampNeg .null, vm := .none } : Cell) = H1
  have z1 : H1.size = H.size + 1 := by rw [← hH1, Array.size_push]
  have e1 : H1[H.size]? = some (arrV (w.2.1 4) x.toNatClampNeg (fun _ => .null)) := by rw [← hH1, Array.getElem?_push_size, ← arrV_new]
  have o1 : ∀ q, q < H.size → H1[q]? = H[q]? := fun q hq => by rw [← hH1, Array.getElem?_push_lt hq]; simp [hq]
  have K := K H1 locs ls
  rw [List.map_cons, tv_ref (by omega), ← hz] at K
  dsimp only at K
  rw [ec] at K
  refine K ⟨?_, hs0⟩ ⟨Nat.le_trans hS.1 (by omega), fun x h1 h2 => (o1 x (Nat.lt_of_lt_of_le h1 hS.1)).trans (hS.2.1 x h1 h2), hS.2.2⟩ hl
  have e2 := wdA_push (w := w) (n := h.1) (h := h.2.2.2) (h' := nw h.2.2.2 (h.1 + 1)) (e := .inl (w.2.1 4, x.toNatClampNeg, .inr (.inr (.inr (.inr (fun _ => none)))))) (by rw [celA_a g1]; unfold arA nw rr; simp) (fun q hq => nw_ne q (by omega))
  show va_P w.1 vwCl (wdA w (h.1 + 1) (nw h.2.2.2 (h.1 + 1))) H1
  rw [← e2, ← hz]
  refine (hP.kept (fun k x hx => o1 x.1 ((hP k x hx).lt))).app (fun k x hx => ?_)
  have hzz : k < 1 := (List.getElem?_eq_some_iff.mp hx).1
  rw [show k = 0 by omega] at hx
  cases hx
  exact e1
theorem A_anewM (X : OKA κ cc nL own nm lv mc ms) {x : Int32} {idx : Nat} (hcl : Cond.classLink own idx "StruckWords$Matter" ∈ tbl) (hg : naOk h 5 x mc ms = true) (hd : decode cc pc = .ok (.anewarray idx, 3)) (K : JA κ (pc + 3) L (.inr (.inr (h.1 + 1)) :: st) (h.1 + 1, h.2.1, h.2.2.1 + x.toNatClampNeg, nw h.2.2.2 (h.1 + 1)) r) : JA κ pc L (.inl x :: st) h r := by
  obtain ⟨p, l, e, R, s, m, args, below, meth, c, w⟩ := κ
  obtain ⟨hx, hb, hml, hr, hown, hts, hlk, hfr, hlo, hmc, hms, hnm, hba, hw, hK, hN⟩ := X
  intro H locs ls ⟨hP, hz⟩ hS hl
  obtain ⟨g0, g1, ga, gb, g2, g3⟩ := naOk_s hg
  refine W_sz (fun hu => ?_)
  have hs0 := hz
  have hz := sz_of hw hP ga gb hs0 hu
  have ec : h.1 + 1 - h.2.1 = h.1 - h.2.1 + 1 := by omega
  refine W.anew hx hb hown (hts _ hcl) (va_AO.use hN.2.2) rfl hd rfl g0 (by have := na_small g1; omega) (by omega) (by omega) fun cA kA comp f1 f2 f3 f4 => ?_
  have hcA : cA = w.2.1 5 := by
    obtain ⟨-, h1⟩ := hK.2 5 _ rfl
    obtain ⟨k9, c9, h2, h3, h4, h5⟩ := h1
    exact Option.some.inj (f1.symm.trans h5)
  subst hcA
  generalize hH1 : H.push ({ cls := w.2.1 5, slots := Array.replicate x.toNatClampNeg .null, vm := .none } : Cell) = H1
  have z1 : H1.size = H.size + 1 := by rw [← hH1, Array.size_push]
  have e1 : H1[H.size]? = some (arrV (w.2.1 5) x.toNatClampNeg (fun _ => .null)) := by rw [← hH1, Array.getElem?_push_size, ← arrV_new]
  have o1 : ∀ q, q < H.size → H1[q]? = H[q]? := fun q hq => by rw [← hH1, Array.getElem?_push_lt hq]; simp [hq]
  have K := K H1 locs ls
  rw [List.map_cons, tv_ref (by omega), ← hz] at K
  dsimp only at K
  rw [ec] at K
  refine K ⟨?_, hs0⟩ ⟨Nat.le_trans hS.1 (by omega), fun x h1 h2 => (o1 x (Nat.lt_of_lt_of_le h1 hS.1)).trans (hS.2.1 x h1 h2), hS.2.2⟩ hl
  have e2 := wdA_push (w := w) (n := h.1) (h := h.2.2.2) (h' := nw h.2.2.2 (h.1 + 1)) (e := .inl (w.2.1 5, x.toNatClampNeg, .inr (.inr (.inr (.inr (fun _ => none)))))) (by rw [celA_a g1]; unfold arA nw rr; simp) (fun q hq => nw_ne q (by omega))
  show va_P w.1 vwCl (wdA w (h.1 + 1) (nw h.2.2.2 (h.1 + 1))) H1
  rw [← e2, ← hz]
  refine (hP.kept (fun k x hx => o1 x.1 ((hP k x hx).lt))).app (fun k x hx => ?_)
  have hzz : k < 1 := (List.getElem?_eq_some_iff.mp hx).1
  rw [show k = 0 by omega] at hx
  cases hx
  exact e1
theorem A_objInit (X : OKA κ cc nL own nm lv mc ms) {a idx : Nat} (hm : Cond.methodLink own idx Lib.objectInit ∈ tbl) (h1l : 1 ≤ lv) (hst : ctS st ≤ 8) (hd : decode cc pc = .ok (.invokespecial idx, 3)) (ha : ¬ a = 0) (K : JA κ (pc + 3) L st h r) : JA κ pc L (.inr (.inr a) :: st) h r := by
  obtain ⟨p, l, e, R, s, m, args, below, meth, c, w⟩ := κ
  obtain ⟨hx, hb, hml, hr, hown, hts, hlk, hfr, hlo, hmc, hms, hnm, hba, hw, hK, hN⟩ := X
  intro H locs ls ⟨hP, hz⟩ hS hl
  rw [List.map_cons, tv_ref ha]
  exact W.objInit hx hb hown (hts _ hm) (hts _ w_obj.1) (hts _ w_obj.2) rfl hl.1 rfl hd (by omega) (by show 2 * 0 + _ + 12 ≤ _; rw [ctS_ok]; omega) (K H locs ls ⟨hP, hz⟩ hS hl)
theorem A_mmax (X : OKA κ cc nL own nm lv mc ms) {idx : Nat} {x y : Int32} (hm : Cond.methodLink own idx Lib.Math.max.name ∈ tbl) (hd : decode cc pc = .ok (.invokestatic idx, 3)) (h1l : 1 ≤ lv) (hct : ctS st ≤ 8) (hcc : vrOk h mc ms = true) (K : JA κ (pc + 3) L (.inl (jmax x y) :: st) h r) : JA κ pc L (.inl y :: .inl x :: st) h r := by
  obtain ⟨p, l, e, R, s, m, args, below, meth, c, w⟩ := κ
  obtain ⟨hx, hb, hml, hr, hown, hts, hlk, hfr, hlo, hmc, hms, hnm, hba, hw, hK, hN⟩ := X
  intro H locs ls ⟨hP, hz⟩ hS hl
  simp only [vrOk, Bool.and_eq_true, decide_eq_true_eq] at hcc
  exact va_mmax hx hb hl.1.symm hown (hts _ hm) (hts _ w_max.1) (hts _ w_min.2.1) (hts _ w_max.2) (by omega) (by rw [ctS_ok]; omega) (by omega) (by omega) hd (K H locs ls ⟨hP, hz⟩ hS hl)
theorem A_vret (X : OKA κ cc nL own nm lv mc ms) (hg : vrOk h mc ms = true) (hd : decode cc pc = .ok (.return_, 1)) : JA κ pc L [] h (h.1, h.2.2.2) := by
  obtain ⟨p, l, e, R, s, m, args, below, meth, c, w⟩ := κ
  obtain ⟨hx, hb, hml, hr, hown, hts, hlk, hfr, hlo, hmc, hms, hnm, hba, hw, hK, hN⟩ := X
  intro H locs ls ⟨hP, hz⟩ hS hl
  simp only [vrOk, Bool.and_eq_true, decide_eq_true_eq] at hg
  refine W_sz (fun hu => ?_)
  have hz2 := sz_of hw hP hg.2.1 hg.2.2 hz hu
  refine W.widen (k := R.cells) (n := R.slots) (by omega) (by omega) ?_
  exact W.vret hx hb hr (fun t ht hW => ⟨rfl, ⟨by rw [ht]; exact hP, by rw [ht]; exact hz2, va_K.moved hW.alike hK, hw, hN.warm hW⟩, hS.F ht⟩) hS.2.2 hd hlk
end AA
